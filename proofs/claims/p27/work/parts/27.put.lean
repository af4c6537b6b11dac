section PUT
variable {SL : Nat → Nat} {SV : Nat → Nat → Int32} {EX : pm_M → pm_C → (pm_C → Prop) → Prop} {S : Nat → pm_E} {n : Nat} {K : q_K}
def pf (st f : Nat → Int32) (B k : Nat) : Nat → Int32 := fun j => if B ≤ j ∧ j < B + k then f (j - B) else st j
theorem pf_0 (st f : Nat → Int32) (B : Nat) : pf st f B 0 = st := by
  funext j
  unfold pf
  rw [if_neg (by omega)]
theorem pf_s (st f : Nat → Int32) (B k : Nat) : upd (pf st f B k) (B + k) (f k) = pf st f B (k + 1) := by
  funext j
  unfold upd pf
  by_cases h : j = B + k
  · rw [if_pos h, if_pos (by omega), h, Nat.add_sub_cancel_left]
  · rw [if_neg h]
    by_cases h2 : B ≤ j ∧ j < B + k
    · rw [if_pos h2, if_pos (by omega)]
    · rw [if_neg h2, if_neg (by omega)]
def putS (S : Nat → pm_E) (R c : Nat) (f st cf cb ch nt cn : Nat → Int32) (fr by_ : Int32) : Nat → pm_E :=
  va_up (va_up (va_up (va_up (va_up (va_up S 55 (.inl (0, 80000, .inl (pf st f (20 * (2000 * R + c)) 20)))) 56 (.inl (0, 4000, .inl (upd cf (2000 * R + c) fr)))) 57 (.inl (0, 4000, .inl (upd cb (2000 * R + c) by_)))) 58 (.inl (0, 4000, .inl (upd ch (2000 * R + c) (nt (8192 * R + rsV f)))))) 61 (.inl (0, 16384, .inl (upd nt (8192 * R + rsV f) (nI c))))) 60 (.inl (0, 2, .inl (upd cn R (nI (c + 1)))))
theorem l_put {R c : Nat} (hR : R ≤ 1) {room fr by_ : Int32} (hroom : room = nI R) {fs : List Value} {f st cf cb ch nt cn : Nat → Int32} (hn : 82 ≤ n) (h46 : S 46 = .inr (10, fs)) (f9 : fs[9]? = some (.ref 53)) (f11 : fs[11]? = some (.ref 55)) (f12 : fs[12]? = some (.ref 56)) (f13 : fs[13]? = some (.ref 57)) (f14 : fs[14]? = some (.ref 58)) (f16 : fs[16]? = some (.ref 60)) (f17 : fs[17]? = some (.ref 61)) (h53 : S 53 = .inl (0, 20, .inl f)) (h55 : S 55 = .inl (0, 80000, .inl st)) (h56 : S 56 = .inl (0, 4000, .inl cf)) (h57 : S 57 = .inl (0, 4000, .inl cb)) (h58 : S 58 = .inl (0, 4000, .inl ch)) (h60 : S 60 = .inl (0, 2, .inl cn)) (h61 : S 61 = .inl (0, 16384, .inl nt)) (hc : c ≤ 2000) (hcn : cn R = nI c)
    (hK1 : c = 2000 → K (some (.int (-1))) S n) (hK2 : c < 2000 → K (some (.int (nI c))) (putS S R c f st cf cb ch nt cn fr by_) n) : PM SL SV EX mm_X12_put [.ref 46, .int room, .int fr, .int by_] S n K := by
  change PQ SL SV EX mm_X12_put 0 [.ref 46, .int room, .int fr, .int by_, pm_un, pm_un, pm_un] [] S n 0 0 K
  subst hroom
  have hV := rsV_lt f
  refine q_aload_n rfl rfl rfl ?_
  refine q_getf rfl rfl (by omega) h46 f16 ?_
  refine q_iload_n rfl rfl rfl ?_
  refine q_iald rfl rfl (by omega) h60 (q_inN (by omega) (by decide)) ?_
  rw [nI_clamp (by omega), hcn]
  refine q_ist4 rfl rfl rfl rfl ?_
  refine q_iload rfl rfl rfl ?_
  refine q_sipush rfl rfl ?_
  refine q_icne rfl rfl (fun e => ?_) (fun e => ?_)
  · have e1 : c = 2000 := (nI_eq (b := 2000) (by omega) (by decide)).mp e
    refine q_iconst rfl rfl ?_
    exact q_iret rfl rfl trivial (hK1 e1)
  · have hc2 : c < 2000 := by
      rcases Nat.lt_or_ge c 2000 with h | h
      · exact h
      · exact absurd (by rw [show c = 2000 by omega]; rfl) e
    refine q_sipush rfl rfl ?_
    refine q_iload_n rfl rfl rfl ?_
    refine q_imul rfl rfl ?_
    refine q_iload rfl rfl rfl ?_
    refine q_iadd rfl rfl (q_tn (z := nI (2000 * R + c)) (by rw [show (2000 : Int32) = nI 2000 from rfl, pk_mul, nI_add]) ?_)
    refine q_ist5 rfl rfl rfl rfl ?_
    refine q_iconst rfl rfl ?_
    refine q_ist6 rfl rfl rfl rfl ?_
    have fin : ∀ y : Int32, PQ SL SV EX mm_X12_put 64 [.ref 46, .int (nI R), .int fr, .int by_, .int (nI c), .int (nI (2000 * R + c)), .int y] [] (va_up S 55 (.inl (0, 80000, .inl (pf st f (20 * (2000 * R + c)) 20)))) n 0 0 K := by
      intro y
      refine q_aload_n rfl rfl rfl ?_
      refine q_getf rfl rfl (by omega) (show va_up S 55 _ 46 = _ from h46) f12 ?_
      refine q_iload rfl rfl rfl ?_
      refine q_iload_n rfl rfl rfl ?_
      refine q_iast rfl rfl (by omega) (show va_up S 55 _ 56 = _ from h56) (q_inN (by omega) (by decide)) ?_
      rw [nI_clamp (by omega)]
      refine q_aload_n rfl rfl rfl ?_
      refine q_getf rfl rfl (by omega) (show va_up (va_up S 55 _) 56 _ 46 = _ from h46) f13 ?_
      refine q_iload rfl rfl rfl ?_
      refine q_iload_n rfl rfl rfl ?_
      refine q_iast rfl rfl (by omega) (show va_up (va_up S 55 _) 56 _ 57 = _ from h57) (q_inN (by omega) (by decide)) ?_
      rw [nI_clamp (by omega)]
      refine q_aload_n rfl rfl rfl ?_
      refine q_iload_n rfl rfl rfl ?_
      refine q_cV1 rfl rfl (Or.inl rfl) rfl rfl rfl (by omega) (show va_up (va_up (va_up S 55 _) 56 _) 57 _ 46 = _ from h46) ⟨rfl, rfl⟩ rfl (fun K' hK' => l_rest (f := f) rfl hn (show va_up (va_up (va_up S 55 _) 56 _) 57 _ 46 = _ from h46) f9 (show va_up (va_up (va_up S 55 _) 56 _) 57 _ 53 = _ from h53) hK') ?_
      refine q_ist6 rfl rfl rfl rfl ?_
      refine q_aload_n rfl rfl rfl ?_
      refine q_getf rfl rfl (by omega) (show va_up (va_up (va_up S 55 _) 56 _) 57 _ 46 = _ from h46) f14 ?_
      refine q_iload rfl rfl rfl ?_
      refine q_aload_n rfl rfl rfl ?_
      refine q_getf rfl rfl (by omega) (show va_up (va_up (va_up S 55 _) 56 _) 57 _ 46 = _ from h46) f17 ?_
      refine q_iload rfl rfl rfl ?_
      refine q_iald rfl rfl (by omega) (show va_up (va_up (va_up S 55 _) 56 _) 57 _ 61 = _ from h61) (q_inN (by omega) (by decide)) ?_
      rw [nI_clamp (by omega)]
      refine q_iast rfl rfl (by omega) (show va_up (va_up (va_up S 55 _) 56 _) 57 _ 58 = _ from h58) (q_inN (by omega) (by decide)) ?_
      rw [nI_clamp (by omega)]
      refine q_aload_n rfl rfl rfl ?_
      refine q_getf rfl rfl (by omega) (show va_up (va_up (va_up (va_up S 55 _) 56 _) 57 _) 58 _ 46 = _ from h46) f17 ?_
      refine q_iload rfl rfl rfl ?_
      refine q_iload rfl rfl rfl ?_
      refine q_iast rfl rfl (by omega) (show va_up (va_up (va_up (va_up S 55 _) 56 _) 57 _) 58 _ 61 = _ from h61) (q_inN (by omega) (by decide)) ?_
      rw [nI_clamp (by omega)]
      refine q_aload_n rfl rfl rfl ?_
      refine q_getf rfl rfl (by omega) (show va_up (va_up (va_up (va_up (va_up S 55 _) 56 _) 57 _) 58 _) 61 _ 46 = _ from h46) f16 ?_
      refine q_iload_n rfl rfl rfl ?_
      refine q_dup2 rfl rfl ?_
      refine q_iald rfl rfl (by omega) (show va_up (va_up (va_up (va_up (va_up S 55 _) 56 _) 57 _) 58 _) 61 _ 60 = _ from h60) (q_inN (by omega) (by decide)) ?_
      rw [nI_clamp (by omega), hcn]
      refine q_iconst rfl rfl ?_
      refine q_iadd rfl rfl (q_tn (z := nI (c + 1)) (nI_1 c) ?_)
      refine q_iast rfl rfl (by omega) (show va_up (va_up (va_up (va_up (va_up S 55 _) 56 _) 57 _) 58 _) 61 _ 60 = _ from h60) (q_inN (by omega) (by decide)) ?_
      rw [nI_clamp (by omega)]
      refine q_iload rfl rfl rfl ?_
      exact q_iret rfl rfl trivial (hK2 hc2)
    have key : ∀ m k : Nat, k + m = 20 → ∀ (y : Int32), y = nI k → PQ SL SV EX mm_X12_put 31 [.ref 46, .int (nI R), .int fr, .int by_, .int (nI c), .int (nI (2000 * R + c)), .int y] [] (va_up S 55 (.inl (0, 80000, .inl (pf st f (20 * (2000 * R + c)) k)))) n 0 0 K := by
      intro m
      induction m with
      | zero =>
        intro k hk y hy
        have e : k = 20 := by omega
        subst e
        have e2 : y = 20 := hy
        subst e2
        refine q_iload rfl rfl rfl ?_
        refine q_bipush rfl rfl ?_
        exact q_icge rfl rfl (fun _ => fin _) (fun c => absurd (by decide) c)
      | succ m ih =>
        intro k hk y hy
        refine q_iload rfl rfl rfl ?_
        refine q_bipush rfl rfl ?_
        refine q_icge rfl rfl (fun c => absurd c ?_) (fun _ => ?_)
        · rw [hy]; exact nI_ge (a := k) (b := 20) (by omega) (by decide)
        · subst hy
          refine q_aload_n rfl rfl rfl ?_
          refine q_getf rfl rfl (by omega) (show va_up S 55 _ 46 = _ from h46) f11 ?_
          refine q_bipush rfl rfl ?_
          refine q_iload rfl rfl rfl ?_
          refine q_imul rfl rfl ?_
          refine q_iload rfl rfl rfl ?_
          refine q_iadd rfl rfl (q_tn (z := nI (20 * (2000 * R + c) + k)) (by rw [show (20 : Int32) = nI 20 from rfl, pk_mul, nI_add]) ?_)
          refine q_aload_n rfl rfl rfl ?_
          refine q_getf rfl rfl (by omega) (show va_up S 55 _ 46 = _ from h46) f9 ?_
          refine q_iload rfl rfl rfl ?_
          refine q_iald rfl rfl (by omega) (show va_up S 55 _ 53 = _ from h53) (q_inN (by omega) (by decide)) ?_
          refine q_iast (f := pf st f (20 * (2000 * R + c)) k) rfl rfl (by omega) rfl (q_inN (by omega) (by decide)) (q_tS (S2 := va_up S 55 (.inl (0, 80000, .inl (pf st f (20 * (2000 * R + c)) (k + 1))))) ?_ ?_)
          · rw [bx_uu, nI_clamp (by omega), nI_clamp (by omega), pf_s]
          · refine q_inc6 rfl rfl rfl rfl ?_
            refine q_goto rfl ?_
            exact ih (k + 1) (by omega) _ (nI_1 k)
    have k0 := key 20 0 (by omega) 0 rfl
    rw [pf_0, va_same h55] at k0
    exact k0
end PUT
