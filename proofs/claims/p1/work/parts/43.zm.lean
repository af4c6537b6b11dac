/-! the reference's clear, on shelves that hold nothing: nothing changes -/
section ZM
variable {SL : Nat → Nat} {SV : Nat → Nat → Int32} {EX : pm_M → pm_C → (pm_C → Prop) → Prop} {S : Nat → pm_E} {n : Nat} {K : q_K}
theorem cl_0 (j : Nat) : vp_updL (fun _ => 0) j 0 = fun _ => 0 := by
  funext i
  unfold vp_updL
  split <;> rfl
theorem l_clear {D : Nat} (hD : D ≤ 7) {d : Int32} (hd : d = nI D) {fs : List Value} (hn : 79 < n) (h46 : S 46 = .inr (10, fs)) (h39 : fs[39]? = some (.ref 79)) (h79 : S 79 = .inl (1, 480, .inr (.inl (fun _ => 0))))
    (hK : K none S n) : PM SL SV EX mm_X12_clear [.ref 46, .int d] S n K := by
  change PQ SL SV EX mm_X12_clear 0 [.ref 46, .int d, pm_un] [] S n 0 0 K
  subst hd
  refine q_iconst rfl rfl ?_
  refine q_ist2n rfl rfl rfl rfl ?_
  have key : ∀ m k : Nat, k + m = 60 → ∀ (y : Int32), y = nI k → PQ SL SV EX mm_X12_clear 2 [.ref 46, .int (nI D), .int y] [] S n 0 0 K := by
    intro m
    induction m with
    | zero =>
      intro k hk y hy
      have e : k = 60 := by omega
      subst e
      have e2 : y = 60 := hy
      subst e2
      refine q_iload_n rfl rfl rfl ?_
      refine q_bipush rfl rfl ?_
      refine q_icge rfl rfl (fun _ => ?_) (fun c => absurd (by decide) c)
      exact q_ret rfl rfl hK
    | succ m ih =>
      intro k hk y hy
      refine q_iload_n rfl rfl rfl ?_
      refine q_bipush rfl rfl ?_
      refine q_icge rfl rfl (fun c => absurd c ?_) (fun _ => ?_)
      · rw [hy]; exact nI_ge (a := k) (b := 60) (by omega) (by decide)
      · refine q_aload_n rfl rfl rfl ?_
        refine q_getf rfl rfl (by omega) h46 h39 ?_
        refine q_bipush rfl rfl ?_
        refine q_iload_n rfl rfl rfl ?_
        refine q_imul rfl rfl ?_
        refine q_iload_n rfl rfl rfl ?_
        refine q_iadd rfl rfl (q_tn (z := nI (60 * D + k)) (by rw [hy, show (60 : Int32) = nI 60 from rfl, pk_mul, nI_add]) ?_)
        refine q_lconst rfl rfl ?_
        refine q_last rfl rfl hn h79 (q_inN (by omega) (by decide)) (q_tS (S2 := S) ?_ ?_)
        · rw [cl_0]
          exact va_same h79
        · subst hy
          refine q_inc2 rfl rfl rfl rfl ?_
          refine q_goto rfl ?_
          exact ih (k + 1) (by omega) _ (nI_1 k)
  exact key 60 0 (by omega) 0 rfl
end ZM
