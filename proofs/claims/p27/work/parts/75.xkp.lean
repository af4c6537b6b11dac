/-! keep: class and reference -/
section KP
variable {θ : Th} {L : Nat} {xs : Nat → Int32} {S : Nat → pm_E} {n : Nat}
def kpO (θ : Th) (d w k x : Int32) : Prop := (0 ≤ d ∧ d < 8) ∧ (w = 0 ∨ w = 3 ∨ (w = 1 ∧ stP θ k x) ∨ (w = 4 ∧ (0 ≤ k ∧ k < θ.2.2.2.2)))
def kpR (θ : Th) (d w k x z : Int32) : Prop := (kpO θ d w k x ∧ z = 0) ∨ (¬ kpO θ d w k x ∧ z = -1)
theorem kpR_fn {d w k x z z' : Int32} (h : kpR θ d w k x z) (h' : kpR θ d w k x z') : z = z' := by
  rcases h with ⟨a, rfl⟩ | ⟨a, rfl⟩ <;> rcases h' with ⟨a', rfl⟩ | ⟨a', rfl⟩ <;> first | rfl | exact absurd a a' | exact absurd a' a
theorem hd_iff {x h : Int32} (h1 : (1 : Int) ≤ h.toInt) (h3 : h.toInt ≤ 3) : inP x 0 (h - 1) ↔ (0 ≤ x ∧ x < h) := by
  constructor
  · intro hx
    obtain ⟨X, hX, rfl, hXh⟩ := hand_of ⟨h1, h3⟩ hx
    rw [Int32.le_iff_toInt_le, Int32.lt_iff_toInt_lt, nI_toInt (by omega)]
    have e0 : (0 : Int32).toInt = 0 := rfl
    omega
  · intro hx
    exact (hnd h1 h3 hx).2
def ar8 (f : Nat → Int32) : pm_E := .inl (0, 8, .inl f)
/-- what the reference's keep does to its shelves -/
def rkpS (θ : Th) (D : Nat) (w k x : Int32) (S S' : Nat → pm_E) : Prop := ∃ hf kf lf sf : Nat → Int32, S 75 = ar8 hf ∧ S 76 = ar8 kf ∧ S 77 = ar8 lf ∧ S 78 = ar8 sf ∧ S' 75 = ar8 (upd hf D w) ∧ ((w = 0 ∧ S' 76 = S 76 ∧ S' 77 = S 77 ∧ S' 78 = S 78) ∨ (w = 1 ∧ (∃ X I, stA θ k x X I ∧ S' 76 = ar8 (upd kf D (θ.2.1 (8 * X + I))) ∧ S' 77 = ar8 (upd lf D (θ.2.2.1 (8 * X + I)))) ∧ S' 78 = S 78) ∨ (w = 3 ∧ S' 76 = S 76 ∧ S' 77 = S 77 ∧ S' 78 = ar8 (upd sf D (4 + θ.2.2.2.2))) ∨ (w = 4 ∧ S' 76 = S 76 ∧ S' 77 = S 77 ∧ ∃ X, X < 3 ∧ k = nI X ∧ (X : Int) < θ.2.2.2.2.toInt ∧ S' 78 = ar8 (upd sf D (θ.1 X))))
def rkpK (θ : Th) (d w k x : Int32) (S : Nat → pm_E) (n : Nat) : q_K := fun r S' n' => n = n' ∧ GS θ S' n ∧ fr1 [75, 76, 77, 78, 79] S S' n ∧ ∃ z : Int32, r = some (.int z) ∧ kpR θ d w k x z ∧ ((z ≠ 0 ∧ S = S') ∨ (z = 0 ∧ rkpS θ d.toNatClampNeg w k x S S'))
theorem gs_79 {T : Nat → pm_E} {g : Nat → Int64} (hG : GS θ S n) (e : ∀ j, j ≠ 79 → T j = S j) (h : T 79 = .inl (1, 480, .inr (.inl g))) : GS θ T n := by
  obtain ⟨g0, h79⟩ := gs_lng hG (k := 79) rfl
  have eT : T = va_up S 79 (.inl (1, 480, .inr (.inl g))) := by
    funext j
    by_cases ej : j = 79
    · subst ej
      exact h.trans u_eq.symm
    · exact (e j ej).trans (u_ne ej).symm
  rw [eT]
  exact gs_st (k := 79) hG rfl rfl ⟨_, rfl⟩ (pk_arr h79)
set_option maxHeartbeats 4000000 in
/-- the loops that lay the items: those of the run, those of a hand -/
theorem rk_run {D : Nat} {w k x : Int32} {K : q_K} {a6 : Value} (hG : GS θ S n) (hD : D < 8) (hK : ∀ T, GS θ T n → (∀ j, j ≠ 79 → T j = S j) → K (some (.int 0)) T n) : PQ (j_SL L) (j_SV xs) j_EX mm_X12_keep 148 [.ref 46, .int (nI D), .int w, .int k, .int x, .int 1, pm_un] [] S n 0 0 K := by
  have hn := gs_n hG
  obtain ⟨mn, fk, fa, fn, fs, k47, k48, k49, k50, k46, m5, m6, f1, hd, hm, hf⟩ := xm_get hG
  have f39 : fs[39]? = some (.ref 79) := fo_ref (hf 39 _ rfl) rfl
  have f10 : fs[10]? = some (.ref 54) := fo_ref (hf 10 _ rfl) rfl
  obtain ⟨rn, k54, -⟩ := gs_arr hG (k := 54) rfl
  obtain ⟨g0, k79⟩ := gs_lng hG (k := 79) rfl
  obtain ⟨H, hH, eH⟩ := nat_of (x := θ.2.2.2.2) (b := 3) (by omega) hd.2
  have fin : ∀ (T : Nat → pm_E) (g : Nat → Int64) (b6 : Value), (∀ j, j ≠ 79 → T j = S j) → T 79 = .inl (1, 480, .inr (.inl g)) → PQ (j_SL L) (j_SV xs) j_EX mm_X12_keep 230 [.ref 46, .int (nI D), .int w, .int k, .int x, .int 1, b6] [] T n 0 0 K := by
    intro T g b6 eT t79
    refine q_goto rfl ?_
    refine q_iconst rfl rfl ?_
    exact q_iret rfl rfl trivial (hK T (gs_79 hG eT t79) eT)
  have l2 : ∀ m j : Nat, j + m = H → ∀ (T : Nat → pm_E) (g : Nat → Int64), (∀ j, j ≠ 79 → T j = S j) → T 79 = .inl (1, 480, .inr (.inl g)) → PQ (j_SL L) (j_SV xs) j_EX mm_X12_keep 189 [.ref 46, .int (nI D), .int w, .int k, .int x, .int 1, .int (nI j)] [] T n 0 0 K := by
    intro m
    induction m with
    | zero =>
      intro j hj T g eT t79
      refine q_iload rfl rfl rfl ?_
      refine q_aload_n rfl rfl rfl ?_
      refine q_getf rfl rfl (by omega) ((eT 46 (by decide)).trans k46) f1 ?_
      refine q_icge rfl rfl (fun _ => fin T g _ eT t79) (fun c => absurd ?_ c)
      rw [eH, show j = H by omega, Int32.le_iff_toInt_le]
      exact Int.le_refl _
    | succ m ih =>
      intro j hj T g eT t79
      refine q_iload rfl rfl rfl ?_
      refine q_aload_n rfl rfl rfl ?_
      refine q_getf rfl rfl (by omega) ((eT 46 (by decide)).trans k46) f1 ?_
      refine q_icge rfl rfl (fun c => absurd c (by rw [eH]; exact nI_ge (a := j) (b := H) (by omega) (by omega))) (fun _ => ?_)
      refine q_aload_n rfl rfl rfl ?_
      refine q_getf rfl rfl (by omega) ((eT 46 (by decide)).trans k46) f39 ?_
      refine q_bipush rfl rfl ?_
      refine q_iload_n rfl rfl rfl ?_
      refine q_imul rfl rfl (q_tn (z := nI (60 * D)) (by rw [show (60 : Int32) = nI 60 from rfl, pk_mul]) ?_)
      refine q_iconst rfl rfl ?_
      refine q_iadd rfl rfl (q_tn (z := nI (60 * D + 4)) (nI_add _ 4) ?_)
      refine q_iload rfl rfl rfl ?_
      refine q_iadd rfl rfl (q_tn (z := nI (60 * D + 4 + j)) (nI_add _ _) ?_)
      refine q_aload_n rfl rfl rfl ?_
      refine q_getf rfl rfl (by omega) ((eT 46 (by decide)).trans k46) f10 ?_
      refine q_iconst rfl rfl ?_
      refine q_iload rfl rfl rfl ?_
      refine q_imul rfl rfl (q_tn (z := nI (4 * j)) (by rw [show (4 : Int32) = nI 4 from rfl, pk_mul]) ?_)
      refine q_iconst rfl rfl ?_
      refine q_iadd rfl rfl (q_tn (z := nI (4 * j + 1)) (nI_add _ 1) ?_)
      refine q_iald rfl rfl (by omega) ((eT 54 (by decide)).trans k54) (q_inN (by omega) (by decide)) ?_
      refine q_i2l rfl rfl ?_
      refine q_last rfl rfl (by omega) t79 (q_inN (by omega) (by decide)) ?_
      refine q_inc6 rfl rfl rfl rfl ?_
      refine q_goto rfl ?_
      rw [show nI j + 1 = nI (j + 1) from nI_add j 1]
      exact ih (j + 1) (by omega) _ _ (fun i hi => (u_ne hi).trans (eT i hi)) u_eq
  have l1 : ∀ m j : Nat, j + m = 4 → ∀ (T : Nat → pm_E) (g : Nat → Int64), (∀ j, j ≠ 79 → T j = S j) → T 79 = .inl (1, 480, .inr (.inl g)) → PQ (j_SL L) (j_SV xs) j_EX mm_X12_keep 151 [.ref 46, .int (nI D), .int w, .int k, .int x, .int 1, .int (nI j)] [] T n 0 0 K := by
    intro m
    induction m with
    | zero =>
      intro j hj T g eT t79
      have e : j = 4 := by omega
      subst e
      refine q_iload rfl rfl rfl ?_
      refine q_iconst rfl rfl ?_
      refine q_icge rfl rfl (fun _ => ?_) (fun c => absurd (by decide) c)
      refine q_iconst rfl rfl ?_
      refine q_ist6 rfl rfl rfl rfl ?_
      exact l2 H 0 (by omega) T g eT t79
    | succ m ih =>
      intro j hj T g eT t79
      refine q_iload rfl rfl rfl ?_
      refine q_iconst rfl rfl ?_
      refine q_icge rfl rfl (fun c => absurd c (nI_ge (a := j) (b := 4) (by omega) (by decide))) (fun _ => ?_)
      refine q_aload_n rfl rfl rfl ?_
      refine q_getf rfl rfl (by omega) ((eT 46 (by decide)).trans k46) f39 ?_
      refine q_bipush rfl rfl ?_
      refine q_iload_n rfl rfl rfl ?_
      refine q_imul rfl rfl (q_tn (z := nI (60 * D)) (by rw [show (60 : Int32) = nI 60 from rfl, pk_mul]) ?_)
      refine q_iload rfl rfl rfl ?_
      refine q_iadd rfl rfl (q_tn (z := nI (60 * D + j)) (nI_add _ _) ?_)
      refine q_aload_n rfl rfl rfl ?_
      refine q_getf rfl rfl (by omega) ((eT 46 (by decide)).trans k46) f10 ?_
      refine q_bipush rfl rfl ?_
      refine q_iload rfl rfl rfl ?_
      refine q_iadd rfl rfl (q_tn (z := nI (12 + j)) (nI_add 12 j) ?_)
      refine q_iald rfl rfl (by omega) ((eT 54 (by decide)).trans k54) (q_inN (by omega) (by decide)) ?_
      refine q_i2l rfl rfl ?_
      refine q_last rfl rfl (by omega) t79 (q_inN (by omega) (by decide)) ?_
      refine q_inc6 rfl rfl rfl rfl ?_
      refine q_goto rfl ?_
      rw [show nI j + 1 = nI (j + 1) from nI_add j 1]
      exact ih (j + 1) (by omega) _ _ (fun i hi => (u_ne hi).trans (eT i hi)) u_eq
  refine q_iconst rfl rfl ?_
  refine q_ist6 rfl rfl rfl rfl ?_
  exact l1 4 0 rfl S g0 (fun _ _ => rfl) k79
set_option maxHeartbeats 4000000 in
theorem rk_hnd {D X : Nat} {w x : Int32} {K : q_K} (hG : GS θ S n) (hD : D < 8) (hX : X < 3) (hK : ∀ T, GS θ T n → (∀ j, j ≠ 79 → T j = S j) → K (some (.int 0)) T n) : PQ (j_SL L) (j_SV xs) j_EX mm_X12_keep 250 [.ref 46, .int (nI D), .int w, .int (nI X), .int x, .int 1, pm_un] [] S n 0 0 K := by
  have hn := gs_n hG
  obtain ⟨mn, fk, fa, fn, fs, k47, k48, k49, k50, k46, m5, m6, f1, hd, hm, hf⟩ := xm_get hG
  have f39 : fs[39]? = some (.ref 79) := fo_ref (hf 39 _ rfl) rfl
  have f2 : fs[2]? = some (.ref 47) := fo_ref (hf 2 _ rfl) rfl
  have f3 : fs[3]? = some (.ref 48) := fo_ref (hf 3 _ rfl) rfl
  obtain ⟨g0, k79⟩ := gs_lng hG (k := 79) rfl
  have hmX := hm X hX
  obtain ⟨H, hH, eH⟩ := nat_of (x := θ.1 X) (b := 8) hmX.1 hmX.2
  have l2 : ∀ m j : Nat, j + m = H → ∀ (T : Nat → pm_E) (g : Nat → Int64), (∀ j, j ≠ 79 → T j = S j) → T 79 = .inl (1, 480, .inr (.inl g)) → PQ (j_SL L) (j_SV xs) j_EX mm_X12_keep 253 [.ref 46, .int (nI D), .int w, .int (nI X), .int x, .int 1, .int (nI j)] [] T n 0 0 K := by
    intro m
    induction m with
    | zero =>
      intro j hj T g eT t79
      refine q_iload rfl rfl rfl ?_
      refine q_aload_n rfl rfl rfl ?_
      refine q_getf rfl rfl (by omega) ((eT 46 (by decide)).trans k46) f2 ?_
      refine q_iload_n rfl rfl rfl ?_
      refine q_iald rfl rfl (by omega) ((eT 47 (by decide)).trans k47) (q_inN (by omega) (by decide)) (q_tn (z := nI H) (by rw [nI_clamp (by omega), m5 X hX, eH]) ?_)
      refine q_icge rfl rfl (fun _ => ?_) (fun c => absurd ?_ c)
      · refine q_iconst rfl rfl ?_
        exact q_iret rfl rfl trivial (hK T (gs_79 hG eT t79) eT)
      · rw [show j = H by omega, Int32.le_iff_toInt_le]
        exact Int.le_refl _
    | succ m ih =>
      intro j hj T g eT t79
      refine q_iload rfl rfl rfl ?_
      refine q_aload_n rfl rfl rfl ?_
      refine q_getf rfl rfl (by omega) ((eT 46 (by decide)).trans k46) f2 ?_
      refine q_iload_n rfl rfl rfl ?_
      refine q_iald rfl rfl (by omega) ((eT 47 (by decide)).trans k47) (q_inN (by omega) (by decide)) (q_tn (z := nI H) (by rw [nI_clamp (by omega), m5 X hX, eH]) ?_)
      refine q_icge rfl rfl (fun c => absurd c (nI_ge (a := j) (b := H) (by omega) (by omega))) (fun _ => ?_)
      refine q_aload_n rfl rfl rfl ?_
      refine q_getf rfl rfl (by omega) ((eT 46 (by decide)).trans k46) f39 ?_
      refine q_bipush rfl rfl ?_
      refine q_iload_n rfl rfl rfl ?_
      refine q_imul rfl rfl (q_tn (z := nI (60 * D)) (by rw [show (60 : Int32) = nI 60 from rfl, pk_mul]) ?_)
      refine q_iload rfl rfl rfl ?_
      refine q_iadd rfl rfl (q_tn (z := nI (60 * D + j)) (nI_add _ _) ?_)
      refine q_aload_n rfl rfl rfl ?_
      refine q_getf rfl rfl (by omega) ((eT 46 (by decide)).trans k46) f3 ?_
      refine q_bipush rfl rfl ?_
      refine q_iload_n rfl rfl rfl ?_
      refine q_imul rfl rfl (q_tn (z := nI (8 * X)) (by rw [show (8 : Int32) = nI 8 from rfl, pk_mul]) ?_)
      refine q_iload rfl rfl rfl ?_
      refine q_iadd rfl rfl (q_tn (z := nI (8 * X + j)) (nI_add _ _) ?_)
      refine q_iald rfl rfl (by omega) ((eT 48 (by decide)).trans k48) (q_inN (by omega) (by decide)) ?_
      refine q_i2l rfl rfl ?_
      refine q_last rfl rfl (by omega) t79 (q_inN (by omega) (by decide)) ?_
      refine q_inc6 rfl rfl rfl rfl ?_
      refine q_goto rfl ?_
      rw [show nI j + 1 = nI (j + 1) from nI_add j 1]
      exact ih (j + 1) (by omega) _ _ (fun i hi => (u_ne hi).trans (eT i hi)) u_eq
  refine q_iconst rfl rfl ?_
  refine q_ist6 rfl rfl rfl rfl ?_
  exact l2 H 0 (by omega) S g0 (fun _ _ => rfl) k79
theorem kp_w {d w k x : Int32} (h : kpO θ d w k x) : (0 : Int) ≤ w.toInt ∧ w.toInt ≤ 4 := by
  rcases h.2 with rfl | rfl | ⟨rfl, -⟩ | ⟨rfl, -⟩ <;> decide
theorem ar8_ne {T S : Nat → pm_E} {j : Nat} {f : Nat → Int32} (e : T j = S j) (h : S j = ar8 f) : T j = ar8 f := e.trans h
set_option maxHeartbeats 4000000 in
theorem rk_75 {D : Nat} {w k x : Int32} (hG : GS θ S n) (hD : D < 8) (hO : kpO θ (nI D) w k x) : PQ (j_SL L) (j_SV xs) j_EX mm_X12_keep 75 [.ref 46, .int (nI D), .int w, .int k, .int x, .int 1, pm_un] [] S n 0 0 (rkpK θ (nI D) w k x S n) := by
  have hn := gs_n hG
  obtain ⟨fs, k46, hf46⟩ := gs_obj hG (k := 46) rfl
  obtain ⟨hf, k75, -⟩ := gs_a1 hG (k := 75) rfl
  obtain ⟨kf, k76, -⟩ := gs_a1 hG (k := 76) rfl
  obtain ⟨lf, k77, -⟩ := gs_a1 hG (k := 77) rfl
  obtain ⟨sf, k78, -⟩ := gs_a1 hG (k := 78) rfl
  have f35 : fs[35]? = some (.ref 75) := fo_ref (hf46 35 _ rfl) rfl
  refine q_aload_n rfl rfl rfl ?_
  refine q_getf rfl rfl (by omega) k46 f35 ?_
  refine q_iload_n rfl rfl rfl ?_
  refine q_iload_n rfl rfl rfl ?_
  refine q_iast rfl rfl (by omega) k75 (q_inN hD (by decide)) ?_
  rw [nI_clamp (by omega)]
  have g1 : GS θ (va_up S 75 (.inl (0, 8, .inl (upd hf D w)))) n := gs_ia hG (k := 75) rfl rfl k75 (kp_w hO)
  refine q_aload_n rfl rfl rfl ?_
  refine q_iload_n rfl rfl rfl ?_
  refine q_cV rfl rfl (Or.inl rfl) rfl rfl rfl rfl (by omega) ((u_ne (by decide)).trans k46) trivial rfl rfl rfl rfl rfl (w_clr g1 hO.1) ?_
  rintro r T n9 ⟨rfl, rfl, hT, eT⟩
  show PQ (j_SL L) (j_SV xs) j_EX mm_X12_keep 87 [.ref 46, .int (nI D), .int w, .int k, .int x, .int 1, pm_un] [] T n 0 0 _
  obtain ⟨mn, fk, fa, fn, fs, k47, k48, k49, k50, k46, m5, m6, f1, hd, hm, hf46⟩ := xm_get hT
  have t75 : T 75 = ar8 (upd hf D w) := (eT 75 (by omega) rfl).trans u_eq
  have t76 : T 76 = ar8 kf := (eT 76 (by omega) rfl).trans ((u_ne (by decide)).trans k76)
  have t77 : T 77 = ar8 lf := (eT 77 (by omega) rfl).trans ((u_ne (by decide)).trans k77)
  have t78 : T 78 = ar8 sf := (eT 78 (by omega) rfl).trans ((u_ne (by decide)).trans k78)
  have f36 : fs[36]? = some (.ref 76) := fo_ref (hf46 36 _ rfl) rfl
  have f37 : fs[37]? = some (.ref 77) := fo_ref (hf46 37 _ rfl) rfl
  have f38 : fs[38]? = some (.ref 78) := fo_ref (hf46 38 _ rfl) rfl
  have f2 : fs[2]? = some (.ref 47) := fo_ref (hf46 2 _ rfl) rfl
  have f3 : fs[3]? = some (.ref 48) := fo_ref (hf46 3 _ rfl) rfl
  have f4 : fs[4]? = some (.ref 49) := fo_ref (hf46 4 _ rfl) rfl
  have frT : fr1 [75, 76, 77, 78, 79] S T n := fr1_tr (l := [75]) (fr1_up fr1_rf rfl) eT rfl rfl
  have fin : ∀ U, GS θ U n → fr1 [75, 76, 77, 78, 79] T U n → rkpS θ D w k x S U → rkpK θ (nI D) w k x S n (some (.int 0)) U n := by
    intro U hU eU hS
    exact ⟨rfl, hU, fr1_tr frT eU rfl rfl, 0, rfl, Or.inl ⟨hO, rfl⟩, Or.inr ⟨rfl, by rw [nI_clamp (by omega)]; exact hS⟩⟩
  have hed : S 75 = ar8 hf ∧ S 76 = ar8 kf ∧ S 77 = ar8 lf ∧ S 78 = ar8 sf := ⟨k75, k76, k77, k78⟩
  refine q_iload_n rfl rfl rfl ?_
  refine q_iconst rfl rfl ?_
  refine q_icne rfl rfl (fun c1 => ?_) (fun c1 => ?_)
  · have hst : stP θ k x := by
      rcases hO.2 with h | h | ⟨-, h⟩ | ⟨h, -⟩
      · exact absurd (c1.symm.trans h) (by decide)
      · exact absurd (c1.symm.trans h) (by decide)
      · exact h
      · exact absurd (c1.symm.trans h) (by decide)
    obtain ⟨X, I, hA⟩ := hst
    have hA0 := hA
    obtain ⟨hX, rfl, hXh, hI, rfl, hl⟩ := hA
    obtain ⟨e4, e5, e6⟩ := m6 (8 * X + I) (by omega)
    refine q_aload_n rfl rfl rfl ?_
    refine q_getf rfl rfl (by omega) k46 f36 ?_
    refine q_iload_n rfl rfl rfl ?_
    refine q_aload_n rfl rfl rfl ?_
    refine q_getf rfl rfl (by omega) k46 f3 ?_
    refine q_bipush rfl rfl ?_
    refine q_iload_n rfl rfl rfl ?_
    refine q_imul rfl rfl (q_tn (z := nI (8 * X)) (by rw [show (8 : Int32) = nI 8 from rfl, pk_mul]) ?_)
    refine q_iload rfl rfl rfl ?_
    refine q_iadd rfl rfl (q_tn (z := nI (8 * X + I)) (nI_add _ _) ?_)
    refine q_iald rfl rfl (by omega) k48 (q_inN (by omega) (by decide)) (q_tn (z := θ.2.1 (8 * X + I)) (by rw [nI_clamp (by omega)]; exact e4) ?_)
    refine q_iast rfl rfl (by omega) t76 (q_inN hD (by decide)) ?_
    rw [nI_clamp (n := D) (by omega)]
    have g2 : GS θ (va_up T 76 (.inl (0, 8, .inl (upd kf D (θ.2.1 (8 * X + I)))))) n := gs_ia hT (k := 76) rfl rfl t76 (fullI _)
    refine q_aload_n rfl rfl rfl ?_
    refine q_getf rfl rfl (by omega) ((u_ne (by decide)).trans k46) f37 ?_
    refine q_iload_n rfl rfl rfl ?_
    refine q_aload_n rfl rfl rfl ?_
    refine q_getf rfl rfl (by omega) ((u_ne (by decide)).trans k46) f4 ?_
    refine q_bipush rfl rfl ?_
    refine q_iload_n rfl rfl rfl ?_
    refine q_imul rfl rfl (q_tn (z := nI (8 * X)) (by rw [show (8 : Int32) = nI 8 from rfl, pk_mul]) ?_)
    refine q_iload rfl rfl rfl ?_
    refine q_iadd rfl rfl (q_tn (z := nI (8 * X + I)) (nI_add _ _) ?_)
    refine q_iald rfl rfl (by omega) ((u_ne (by decide)).trans k49) (q_inN (by omega) (by decide)) (q_tn (z := θ.2.2.1 (8 * X + I)) (by rw [nI_clamp (by omega)]; exact e5) ?_)
    refine q_iast rfl rfl (by omega) ((u_ne (by decide)).trans t77) (q_inN hD (by decide)) ?_
    rw [nI_clamp (n := D) (by omega)]
    have g3 := gs_ia (X := D) (v := θ.2.2.1 (8 * X + I)) g2 (k := 77) rfl rfl ((u_ne (by decide)).trans t77) (fullI _)
    refine q_goto rfl ?_
    refine q_iconst rfl rfl ?_
    refine q_iret rfl rfl trivial (fin _ g3 (fr1_up (fr1_up fr1_rf rfl) rfl) ⟨hf, kf, lf, sf, hed.1, hed.2.1, hed.2.2.1, hed.2.2.2, (u_ne (by decide)).trans ((u_ne (by decide)).trans t75), Or.inr (Or.inl ⟨c1, ⟨X, I, hA0, (u_ne (by decide)).trans u_eq, u_eq⟩, ((u_ne (by decide)).trans ((u_ne (by decide)).trans t78)).trans hed.2.2.2.symm⟩)⟩)
  refine q_iload_n rfl rfl rfl ?_
  refine q_iconst rfl rfl ?_
  refine q_icne rfl rfl (fun c3 => ?_) (fun c3 => ?_)
  · have e4 : (4 + θ.2.2.2.2).toInt = 4 + θ.2.2.2.2.toInt := by
      obtain ⟨H, hH, eH⟩ := nat_of (x := θ.2.2.2.2) (b := 3) (by omega) hd.2
      rw [eH, show (4 : Int32) + nI H = nI (4 + H) from nI_add 4 H, nI_toInt (by omega), nI_toInt (by omega)]
      omega
    refine q_aload_n rfl rfl rfl ?_
    refine q_getf rfl rfl (by omega) k46 f38 ?_
    refine q_iload_n rfl rfl rfl ?_
    refine q_iconst rfl rfl ?_
    refine q_aload_n rfl rfl rfl ?_
    refine q_getf rfl rfl (by omega) k46 f1 ?_
    refine q_iadd rfl rfl ?_
    refine q_iast rfl rfl (by omega) t78 (q_inN hD (by decide)) ?_
    rw [nI_clamp (n := D) (by omega)]
    have g2 : GS θ (va_up T 78 (.inl (0, 8, .inl (upd sf D (4 + θ.2.2.2.2))))) n := gs_ia hT (k := 78) rfl rfl t78 (by show (0 : Int) ≤ _ ∧ _ ≤ (60 : Int); omega)
    refine rk_run (a6 := pm_un) g2 hD (fun U hU eU => ?_)
    refine fin U hU ?_ ⟨hf, kf, lf, sf, hed.1, hed.2.1, hed.2.2.1, hed.2.2.2, (eU 75 (by decide)).trans ((u_ne (by decide)).trans t75), Or.inr (Or.inr (Or.inl ⟨c3, ((eU 76 (by decide)).trans ((u_ne (by decide)).trans t76)).trans hed.2.1.symm, ((eU 77 (by decide)).trans ((u_ne (by decide)).trans t77)).trans hed.2.2.1.symm, (eU 78 (by decide)).trans u_eq⟩))⟩
    exact fr1_tr (l := [78]) (l2 := [79]) (fr1_up fr1_rf rfl) (fun j _ hj => eU j (fun e => by rw [e] at hj; cases hj)) rfl rfl
  refine q_iload_n rfl rfl rfl ?_
  refine q_iconst rfl rfl ?_
  refine q_icne rfl rfl (fun c4 => ?_) (fun c4 => ?_)
  · have hkh : 0 ≤ k ∧ k < θ.2.2.2.2 := by
      rcases hO.2 with h | h | ⟨h, -⟩ | ⟨-, h⟩
      · exact absurd (c4.symm.trans h) (by decide)
      · exact absurd (c4.symm.trans h) (by decide)
      · exact absurd (c4.symm.trans h) (by decide)
      · exact h
    obtain ⟨⟨X, hX, rfl, hXh⟩, -⟩ := hnd hd.1 hd.2 hkh
    have hmX := hm X hX
    refine q_aload_n rfl rfl rfl ?_
    refine q_getf rfl rfl (by omega) k46 f38 ?_
    refine q_iload_n rfl rfl rfl ?_
    refine q_aload_n rfl rfl rfl ?_
    refine q_getf rfl rfl (by omega) k46 f2 ?_
    refine q_iload_n rfl rfl rfl ?_
    refine q_iald rfl rfl (by omega) k47 (q_inN (by omega) (by decide)) (q_tn (z := θ.1 X) (by rw [nI_clamp (by omega)]; exact m5 X hX) ?_)
    refine q_iast rfl rfl (by omega) t78 (q_inN hD (by decide)) ?_
    rw [nI_clamp (n := D) (by omega)]
    have g2 : GS θ (va_up T 78 (.inl (0, 8, .inl (upd sf D (θ.1 X))))) n := gs_ia hT (k := 78) rfl rfl t78 (by show (0 : Int) ≤ _ ∧ _ ≤ (60 : Int); omega)
    refine rk_hnd g2 hD hX (fun U hU eU => ?_)
    refine fin U hU ?_ ⟨hf, kf, lf, sf, hed.1, hed.2.1, hed.2.2.1, hed.2.2.2, (eU 75 (by decide)).trans ((u_ne (by decide)).trans t75), Or.inr (Or.inr (Or.inr ⟨c4, ((eU 76 (by decide)).trans ((u_ne (by decide)).trans t76)).trans hed.2.1.symm, ((eU 77 (by decide)).trans ((u_ne (by decide)).trans t77)).trans hed.2.2.1.symm, X, hX, rfl, hXh, (eU 78 (by decide)).trans u_eq⟩))⟩
    exact fr1_tr (l := [78]) (l2 := [79]) (fr1_up fr1_rf rfl) (fun j _ hj => eU j (fun e => by rw [e] at hj; cases hj)) rfl rfl
  have c0 : w = 0 := by
    rcases hO.2 with h | h | ⟨h, -⟩ | ⟨h, -⟩
    · exact h
    · exact absurd h c3
    · exact absurd h c1
    · exact absurd h c4
  refine q_iconst rfl rfl ?_
  exact q_iret rfl rfl trivial (fin T hT fr1_rf ⟨hf, kf, lf, sf, hed.1, hed.2.1, hed.2.2.1, hed.2.2.2, t75, Or.inl ⟨c0, t76.trans hed.2.1.symm, t77.trans hed.2.2.1.symm, t78.trans hed.2.2.2.symm⟩⟩)
set_option maxHeartbeats 4000000 in
theorem l_rkp {d w k x : Int32} (hG : GS θ S n) : PM (j_SL L) (j_SV xs) j_EX mm_X12_keep [.ref 46, .int d, .int w, .int k, .int x] S n (rkpK θ d w k x S n) := by
  have hn := gs_n hG
  obtain ⟨mn, fk, fa, fn, fs, k47, k48, k49, k50, k46, m5, m6, f1, hd, hm, hf⟩ := xm_get hG
  have f2 : fs[2]? = some (.ref 47) := fo_ref (hf 2 _ rfl) rfl
  change PQ (j_SL L) (j_SV xs) j_EX mm_X12_keep 0 [.ref 46, .int d, .int w, .int k, .int x, pm_un, pm_un] [] S n 0 0 _
  have s65 : ¬ kpO θ d w k x → PQ (j_SL L) (j_SV xs) j_EX mm_X12_keep 65 [.ref 46, .int d, .int w, .int k, .int x, pm_un, pm_un] [] S n 0 0 (rkpK θ d w k x S n) := by
    intro hO
    refine q_iconst rfl rfl ?_
    refine q_ist5 rfl rfl rfl rfl ?_
    refine q_iload rfl rfl rfl ?_
    refine q_ifne rfl rfl (fun _ => ?_) (fun c => absurd rfl c)
    refine q_iconst rfl rfl ?_
    exact q_iret rfl rfl trivial ⟨rfl, hG, fr1_rf, -1, rfl, Or.inr ⟨hO, rfl⟩, Or.inl ⟨by decide, rfl⟩⟩
  have s61 : kpO θ d w k x → PQ (j_SL L) (j_SV xs) j_EX mm_X12_keep 61 [.ref 46, .int d, .int w, .int k, .int x, pm_un, pm_un] [] S n 0 0 (rkpK θ d w k x S n) := by
    intro hO
    obtain ⟨D, hD, rfl⟩ : ∃ D, D < 8 ∧ d = nI D := by
      have h8 := hO.1
      rw [Int32.le_iff_toInt_le, Int32.lt_iff_toInt_lt] at h8
      have e8 : (8 : Int32).toInt = 8 := rfl
      obtain ⟨D, hD, e⟩ := nat_of (x := d) (b := 7) h8.1 (by omega)
      exact ⟨D, by omega, e⟩
    refine q_iconst rfl rfl ?_
    refine q_goto rfl ?_
    refine q_ist5 rfl rfl rfl rfl ?_
    refine q_iload rfl rfl rfl ?_
    refine q_ifne rfl rfl (fun c => absurd c (by decide)) (fun _ => ?_)
    exact rk_75 hG hD hO
  refine q_aload_n rfl rfl rfl ?_
  refine q_iload_n rfl rfl rfl ?_
  refine q_cV rfl rfl (Or.inl rfl) rfl rfl rfl rfl (by omega) k46 trivial rfl rfl rfl rfl rfl (l_isShelf hn k46) ?_
  rintro r S1 n1 ⟨e1, e2, hr⟩
  obtain rfl := e1.symm
  obtain rfl := e2.symm
  rcases hr with ⟨q, rfl⟩ | ⟨q, rfl⟩
  · show PQ (j_SL L) (j_SV xs) j_EX mm_X12_keep 5 _ [.int 0] S n 0 0 _
    exact q_ifeq rfl rfl (fun _ => s65 (fun h => q (in07.mpr h.1))) (fun c => absurd rfl c)
  show PQ (j_SL L) (j_SV xs) j_EX mm_X12_keep 5 _ [.int 1] S n 0 0 _
  refine q_ifeq rfl rfl (fun c => absurd c (by decide)) (fun _ => ?_)
  have hd8 := in07.mp q
  have s48 : ¬ w = 0 → ¬ w = 3 → ¬ (w = 1 ∧ stP θ k x) → PQ (j_SL L) (j_SV xs) j_EX mm_X12_keep 48 [.ref 46, .int d, .int w, .int k, .int x, pm_un, pm_un] [] S n 0 0 (rkpK θ d w k x S n) := by
    intro c0 c3 c1
    refine q_iload_n rfl rfl rfl ?_
    refine q_iconst rfl rfl ?_
    refine q_icne rfl rfl (fun c4 => ?_) (fun c4 => s65 ?_)
    · refine q_aload_n rfl rfl rfl ?_
      refine q_iload_n rfl rfl rfl ?_
      refine q_cV rfl rfl (Or.inl rfl) rfl rfl rfl rfl (by omega) k46 trivial rfl rfl rfl rfl rfl (l_isHand hn k46 f1) ?_
      rintro r S1 n1 ⟨e1, e2, hr⟩
      obtain rfl := e1.symm
      obtain rfl := e2.symm
      rcases hr with ⟨p, rfl⟩ | ⟨p, rfl⟩
      · show PQ (j_SL L) (j_SV xs) j_EX mm_X12_keep 58 _ [.int 0] S n 0 0 _
        refine q_ifeq rfl rfl (fun _ => s65 ?_) (fun c => absurd rfl c)
        rintro ⟨-, h | h | h | h⟩
        · exact c0 h
        · exact c3 h
        · exact c1 h
        · exact p ((hd_iff hd.1 hd.2).mpr h.2)
      · show PQ (j_SL L) (j_SV xs) j_EX mm_X12_keep 58 _ [.int 1] S n 0 0 _
        exact q_ifeq rfl rfl (fun c => absurd c (by decide)) (fun _ => s61 ⟨hd8, Or.inr (Or.inr (Or.inr ⟨c4, (hd_iff hd.1 hd.2).mp p⟩))⟩)
    · rintro ⟨-, h | h | h | h⟩
      · exact c0 h
      · exact c3 h
      · exact c1 h
      · exact c4 h.1
  refine q_iload_n rfl rfl rfl ?_
  refine q_ifeq rfl rfl (fun c0 => s61 ⟨hd8, Or.inl c0⟩) (fun c0 => ?_)
  refine q_iload_n rfl rfl rfl ?_
  refine q_iconst rfl rfl ?_
  refine q_iceq rfl rfl (fun c3 => s61 ⟨hd8, Or.inr (Or.inl c3)⟩) (fun c3 => ?_)
  refine q_iload_n rfl rfl rfl ?_
  refine q_iconst rfl rfl ?_
  refine q_icne rfl rfl (fun c1 => ?_) (fun c1 => s48 c0 c3 (fun h => c1 h.1))
  refine q_aload_n rfl rfl rfl ?_
  refine q_iload_n rfl rfl rfl ?_
  refine q_cV rfl rfl (Or.inl rfl) rfl rfl rfl rfl (by omega) k46 trivial rfl rfl rfl rfl rfl (l_isHand hn k46 f1) ?_
  rintro r S1 n1 ⟨e1, e2, hr⟩
  obtain rfl := e1.symm
  obtain rfl := e2.symm
  rcases hr with ⟨p, rfl⟩ | ⟨p, rfl⟩
  · show PQ (j_SL L) (j_SV xs) j_EX mm_X12_keep 27 _ [.int 0] S n 0 0 _
    refine q_ifeq rfl rfl (fun _ => s48 c0 c3 (fun h => ?_)) (fun c => absurd rfl c)
    obtain ⟨-, X, I, hX, rfl, hXh, -⟩ := h
    exact p ((hd_iff hd.1 hd.2).mpr ⟨by rw [Int32.le_iff_toInt_le, nI_toInt (by omega)]; show (0 : Int) ≤ _; omega, by rw [Int32.lt_iff_toInt_lt, nI_toInt (by omega)]; exact hXh⟩)
  show PQ (j_SL L) (j_SV xs) j_EX mm_X12_keep 27 _ [.int 1] S n 0 0 _
  refine q_ifeq rfl rfl (fun c => absurd c (by decide)) (fun _ => ?_)
  obtain ⟨X, hX, rfl, hXh⟩ := hand_of hd p
  have hmX := hm X hX
  refine q_aload_n rfl rfl rfl ?_
  refine q_iload rfl rfl rfl ?_
  refine q_iconst rfl rfl ?_
  refine q_aload_n rfl rfl rfl ?_
  refine q_getf rfl rfl (by omega) k46 f2 ?_
  refine q_iload_n rfl rfl rfl ?_
  refine q_iald rfl rfl (by omega) k47 (q_inN (by omega) (by decide)) (q_tn (z := θ.1 X) (by rw [nI_clamp (by omega)]; exact m5 X hX) ?_)
  refine q_iconst rfl rfl ?_
  refine q_isub rfl rfl ?_
  refine q_cV rfl rfl (Or.inl rfl) rfl rfl rfl rfl (by omega) k46 trivial rfl rfl rfl rfl rfl l_in ?_
  rintro r S1 n1 ⟨e1, e2, hr⟩
  obtain rfl := e1.symm
  obtain rfl := e2.symm
  have hst : inP x 0 (θ.1 X - 1) ↔ stP θ (nI X) x := in_st hX rfl hXh rfl hmX.1 hmX.2
  rcases hr with ⟨q1, rfl⟩ | ⟨q1, rfl⟩
  · show PQ (j_SL L) (j_SV xs) j_EX mm_X12_keep 45 _ [.int 0] S n 0 0 _
    exact q_ifne rfl rfl (fun _ => s48 c0 c3 (fun h => q1 (hst.mpr h.2))) (fun c => absurd rfl c)
  · show PQ (j_SL L) (j_SV xs) j_EX mm_X12_keep 45 _ [.int 1] S n 0 0 _
    exact q_ifne rfl rfl (fun c => absurd c (by decide)) (fun _ => s61 ⟨hd8, Or.inr (Or.inr (Or.inl ⟨c1, hst.mp q1⟩))⟩)
end KP
