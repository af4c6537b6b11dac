theorem va_same {S : Nat → pm_E} {k : Nat} {x : pm_E} (h : S k = x) : va_up S k x = S := by
  funext j
  unfold va_up
  split
  · rename_i e; rw [e, h]
  · rfl
section LP
variable {SL : Nat → Nat} {SV : Nat → Nat → Int32} {EX : pm_M → pm_C → (pm_C → Prop) → Prop} {S : Nat → pm_E} {n : Nat} {K : q_K} {rest : List Value}
def nfk (f : Nat → Int32) (v : Int32) (a k : Nat) : Nat → Int32 := fun j => if a ≤ j ∧ j < a + k then v else f j
theorem nfk_0 (f : Nat → Int32) (v : Int32) (a : Nat) : nfk f v a 0 = f := by
  funext j; unfold nfk; rw [if_neg (by omega)]
theorem nfk_s (f : Nat → Int32) (v : Int32) (a k : Nat) : upd (nfk f v a k) (a + k) v = nfk f v a (k + 1) := by
  funext j; unfold upd nfk
  by_cases h : j = a + k
  · rw [if_pos h, if_pos (by omega)]
  · rw [if_neg h]
    by_cases h2 : a ≤ j ∧ j < a + k
    · rw [if_pos h2, if_pos (by omega)]
    · rw [if_neg h2, if_neg (by omega)]
theorem q_inN {j m : Nat} (h : j < m) (hm : m < 2 ^ 31) : pm_inb (nI j) m = true := pm_in_of (vp_in_nI h hm)
theorem l_net {R : Nat} (hR : R ≤ 1) {room : Int32} (hroom : room = nI R) {fs : List Value} {f : Nat → Int32} {pic : Int32} (hn : 61 < n) (h46 : S 46 = .inr (10, fs)) (hfs : fs[17]? = some (.ref 61)) (h61 : S 61 = .inl (0, 16384, .inl f))
    (kk : PQ SL SV EX mm_X12_explore 28 (.ref 46 :: .int room :: .int pic :: .int 8192 :: rest) [] (va_up S 61 (.inl (0, 16384, .inl (nfk f (-1) (8192 * R) 8192)))) n 0 0 K) : PQ SL SV EX mm_X12_explore 2 (.ref 46 :: .int room :: .int pic :: .int 0 :: rest) [] S n 0 0 K := by
  subst hroom
  have key : ∀ m k : Nat, k + m = 8192 → ∀ (y : Int32), y = nI k → PQ SL SV EX mm_X12_explore 2 (.ref 46 :: .int (nI R) :: .int pic :: .int y :: rest) [] (va_up S 61 (.inl (0, 16384, .inl (nfk f (-1) (8192 * R) k)))) n 0 0 K := by
    intro m
    induction m with
    | zero =>
      intro k hk y hy
      have e : k = 8192 := by omega
      subst e
      have e2 : y = 8192 := hy
      subst e2
      refine q_iload_n rfl rfl rfl ?_
      refine q_sipush rfl rfl ?_
      exact q_icge rfl rfl (fun _ => kk) (fun c => absurd (by decide) c)
    | succ m ih =>
      intro k hk y hy
      refine q_iload_n rfl rfl rfl ?_
      refine q_sipush rfl rfl ?_
      refine q_icge rfl rfl (fun c => absurd c ?_) (fun _ => ?_)
      · rw [hy]; exact nI_ge (a := k) (b := 8192) (by omega) (by decide)
      · refine q_aload_n rfl rfl rfl ?_
        refine q_getf rfl rfl (by omega) h46 hfs ?_
        refine q_sipush rfl rfl ?_
        refine q_iload_n rfl rfl rfl ?_
        refine q_imul rfl rfl ?_
        refine q_iload_n rfl rfl rfl ?_
        refine q_iadd rfl rfl (q_tn (z := nI (8192 * R + k)) (by rw [hy, show (8192 : Int32) = nI 8192 from rfl, pk_mul, nI_add]) ?_)
        refine q_iconst rfl rfl ?_
        refine q_iast rfl rfl hn rfl (q_inN (by omega) (by decide)) (q_tS (S2 := va_up S 61 (.inl (0, 16384, .inl (nfk f (-1) (8192 * R) (k + 1))))) ?_ ?_)
        · rw [bx_uu, nI_clamp (by omega), nfk_s]
        · refine q_inc3 rfl rfl rfl rfl ?_
          refine q_goto rfl ?_
          exact ih (k + 1) (by omega) _ (by rw [hy]; exact nI_1 k)
  have k0 := key 8192 0 (by omega) 0 rfl
  rw [nfk_0, va_same h61] at k0
  exact k0
theorem l_fill {k m0 : Nat} {v : Int32} {f : Nat → Int32} (hk : k < n) (hs : S k = .inl (0, m0, .inl f)) (hm : m0 < 2 ^ 31) (hK : K none (va_up S k (.inl (0, m0, .inl (nfk f v 0 m0)))) n) : PM SL SV EX mm_J7_fill_53178 [.ref k, .int v] S n K := by
  change PQ SL SV EX mm_J7_fill_53178 0 [.ref k, .int v, pm_un, pm_un] [] S n 0 0 K
  refine q_iconst rfl rfl ?_
  refine q_ist2n rfl rfl rfl rfl ?_
  refine q_aload_n rfl rfl rfl ?_
  refine q_alen rfl rfl hk hs rfl ?_
  refine q_ist3n rfl rfl rfl rfl ?_
  have key : ∀ q j : Nat, j + q = m0 → ∀ (y : Int32), y = nI j → PQ SL SV EX mm_J7_fill_53178 5 [.ref k, .int v, .int y, .int (Int32.ofNat m0)] [] (va_up S k (.inl (0, m0, .inl (nfk f v 0 j)))) n 0 0 K := by
    intro q
    induction q with
    | zero =>
      intro j hj y hy
      have e : j = m0 := by omega
      subst e
      refine q_iload_n rfl rfl rfl ?_
      refine q_iload_n rfl rfl rfl ?_
      refine q_icge rfl rfl (fun _ => ?_) (fun c => absurd (by rw [hy]; exact Int32.le_refl _) c)
      exact q_ret rfl rfl hK
    | succ q ih =>
      intro j hj y hy
      refine q_iload_n rfl rfl rfl ?_
      refine q_iload_n rfl rfl rfl ?_
      refine q_icge rfl rfl (fun c => absurd c ?_) (fun _ => ?_)
      · rw [hy]; exact nI_ge (a := j) (b := m0) (by omega) hm
      · refine q_aload_n rfl rfl rfl ?_
        refine q_iload_n rfl rfl rfl ?_
        refine q_iload_n rfl rfl rfl ?_
        subst hy
        refine q_iast (f := nfk f v 0 j) rfl rfl hk (by simp [va_up]) (q_inN (by omega) hm) (q_tS (S2 := va_up S k (.inl (0, m0, .inl (nfk f v 0 (j + 1))))) ?_ ?_)
        · rw [bx_uu, nI_clamp (by omega)]
          have := nfk_s f v 0 j
          rw [Nat.zero_add] at this
          rw [this]
        · refine q_inc2 rfl rfl rfl rfl ?_
          refine q_goto rfl ?_
          exact ih (j + 1) (by omega) _ (nI_1 j)
  have k0 := key m0 0 (by omega) 0 rfl
  rw [nfk_0, va_same hs] at k0
  exact k0
end LP
