/-! branches on 'not the same', the branch taken first -/
section MZ
variable {SL : Nat → Nat} {SV : Nat → Nat → Int32} {EX : pm_M → pm_C → (pm_C → Prop) → Prop} {M : pm_M} {pc q len a b : Nat} {v : Value} {L st : List Value} {S : Nat → pm_E} {n c s : Nat} {K : q_K}
theorem q_fne {x : Int32} {i0 : Int} (hl : pm_look M pc = some (.ifCond .ne i0, len, a, b, v)) (hq : pc + 3 = q) (kt : ¬ (x = (0 : Int32)) → PQ SL SV EX M a L st S n c s K) (kf : ¬ ¬ (x = (0 : Int32)) → PQ SL SV EX M q L st S n c s K) : PQ SL SV EX M pc L (.int x :: st) S n c s K := q_ifne hl hq (fun h => kf (fun h9 => h9 h)) kt
theorem q_cne {x y : Int32} {i0 : Int} (hl : pm_look M pc = some (.if_icmp .ne i0, len, a, b, v)) (hq : pc + 3 = q) (kt : ¬ (x = y) → PQ SL SV EX M a L st S n c s K) (kf : ¬ ¬ (x = y) → PQ SL SV EX M q L st S n c s K) : PQ SL SV EX M pc L (.int y :: .int x :: st) S n c s K := q_icne hl hq (fun h => kf (fun h9 => h9 h)) kt
theorem l_fl9 {L : Nat} {xs : Nat → Int32} {k m0 : Nat} {x : Int32} {f : Nat → Int32} (hk : k < n) (hs : S k = .inl (0, m0, .inl f)) (hm : m0 < 2 ^ 31) : PM (j_SL L) (j_SV xs) j_EX mm_J7_fill_53178 [.ref k, .int x] S n (fun r S' n' => r = none ∧ S' = va_up S k (.inl (0, m0, .inl (nfk f x 0 m0))) ∧ n = n') := l_fill hk hs hm ⟨rfl, rfl, rfl⟩
theorem in11_2 {L j : Nat} (hc : j < 11) : pm_inb (nI j) (j_SL L (UInt32.ofNat 2).toNat) = true := show pm_inb (nI j) 11 = true from q_inN hc (by decide)
theorem in11_3 {L j : Nat} (hc : j < 11) : pm_inb (nI j) (j_SL L (UInt32.ofNat 3).toNat) = true := show pm_inb (nI j) 11 = true from q_inN hc (by decide)
theorem in11_4 {L j : Nat} (hc : j < 11) : pm_inb (nI j) (j_SL L (UInt32.ofNat 4).toNat) = true := show pm_inb (nI j) 11 = true from q_inN hc (by decide)
end MZ
