/-! element: the reference's items, exactly -/
section TA
variable {θ : Th} {L : Nat} {xs : Nat → Int32} {S : Nat → pm_E} {n : Nat} {g0 : Nat → Int64} {fs : List Value}
def it79 (g : Nat → Int64) : pm_E := .inl (1, 480, .inr (.inl g))
theorem tL_at {f : Nat → Int64} {i : Nat} {x : Int64} : vp_updL f i x i = x := if_pos rfl
theorem tL_ot {f : Nat → Int64} {i j : Nat} {x : Int64} (h : j ≠ i) : vp_updL f i x j = f j := if_neg h
/-- outside of shelf D the items are as before -/
def ioD (D : Nat) (g g' : Nat → Int64) : Prop := ∀ j, j < 60 * D ∨ 60 * D + 60 ≤ j → g' j = g j
theorem io_rf {D : Nat} {g : Nat → Int64} : ioD D g g := fun _ _ => rfl
theorem io_tr {D : Nat} {g g1 g2 : Nat → Int64} (h : ioD D g g1) (h' : ioD D g1 g2) : ioD D g g2 := fun j hj => (h' j hj).trans (h j hj)
theorem io_up {D k : Nat} {g g' : Nat → Int64} {x : Int64} (h : ioD D g g') (hk : k < 60) : ioD D g (vp_updL g' (60 * D + k) x) := fun j hj => (tL_ot (by omega)).trans (h j hj)
theorem hp_at {S T : Nat → pm_E} {n k : Nat} (h : hp S n = hp T n) (hk : k < n) : S k = T k := by
  have h1 := hp_get (S := S) hk
  have h2 := hp_get (S := T) hk
  rw [h] at h1
  exact Option.some.inj (h1.symm.trans h2)
set_option maxHeartbeats 4000000 in
theorem l_clrX {D : Nat} (hD : D < 8) (hn : 82 ≤ n) (k46 : S 46 = .inr (10, fs)) (f39 : fs[39]? = some (.ref 79)) (k79 : S 79 = it79 g0) : PM (j_SL L) (j_SV xs) j_EX mm_X12_clear [.ref 46, .int (nI D)] S n (fun r S' n' => ∃ g, S' 79 = it79 g ∧ ioD D g0 g ∧ ∀ i, i < 60 → g (60 * D + i) = 0) := by
  change PQ (j_SL L) (j_SV xs) j_EX mm_X12_clear 0 [.ref 46, .int (nI D), pm_un] [] S n 0 0 _
  have loop : ∀ m i : Nat, i + m = 60 → ∀ (T : Nat → pm_E) (g : Nat → Int64), (∀ j, j ≠ 79 → T j = S j) → T 79 = it79 g → ioD D g0 g → (∀ k, k < i → g (60 * D + k) = 0) → PQ (j_SL L) (j_SV xs) j_EX mm_X12_clear 2 [.ref 46, .int (nI D), .int (nI i)] [] T n 0 0 (fun r S' n' => ∃ g, S' 79 = it79 g ∧ ioD D g0 g ∧ ∀ i, i < 60 → g (60 * D + i) = 0) := by
    intro m
    induction m with
    | zero =>
      intro i hi T g eT t79 hio hz
      have e : i = 60 := by omega
      subst e
      refine q_iload_n rfl rfl rfl ?_
      refine q_bipush rfl rfl ?_
      refine q_icge rfl rfl (fun _ => ?_) (fun c => absurd (by decide) c)
      exact q_ret rfl rfl ⟨g, t79, hio, hz⟩
    | succ m ih =>
      intro i hi T g eT t79 hio hz
      refine q_iload_n rfl rfl rfl ?_
      refine q_bipush rfl rfl ?_
      refine q_icge rfl rfl (fun c => absurd c (nI_ge (a := i) (b := 60) (by omega) (by decide))) (fun _ => ?_)
      refine q_aload_n rfl rfl rfl ?_
      refine q_getf rfl rfl (by omega) ((eT 46 (by decide)).trans k46) f39 ?_
      refine q_bipush rfl rfl ?_
      refine q_iload_n rfl rfl rfl ?_
      refine q_imul rfl rfl (q_tn (z := nI (60 * D)) (by rw [show (60 : Int32) = nI 60 from rfl, pk_mul]) ?_)
      refine q_iload_n rfl rfl rfl ?_
      refine q_iadd rfl rfl (q_tn (z := nI (60 * D + i)) (nI_add _ _) ?_)
      refine q_lconst rfl rfl ?_
      refine q_last rfl rfl (by omega) t79 (q_inN (by omega) (by decide)) ?_
      rw [nI_clamp (by omega)]
      refine q_inc2 rfl rfl rfl rfl ?_
      refine q_goto rfl ?_
      rw [show nI i + 1 = nI (i + 1) from nI_add i 1]
      refine ih (i + 1) (by omega) _ _ (fun j hj => (u_ne hj).trans (eT j hj)) u_eq (io_up hio (by omega)) (fun k hk => ?_)
      by_cases e : k = i
      · rw [e]
        exact tL_at
      · exact (tL_ot (by omega)).trans (hz k (by omega))
  refine q_iconst rfl rfl ?_
  refine q_ist2n rfl rfl rfl rfl ?_
  exact loop 60 0 rfl S g0 (fun _ _ => rfl) k79 io_rf (fun k hk => absurd hk (Nat.not_lt_zero k))
/-- clear: the contract and the items -/
theorem w_clrX {D : Nat} (hG : GS θ S n) (hD : D < 8) (k79 : S 79 = it79 g0) : PM (j_SL L) (j_SV xs) j_EX mm_X12_clear [.ref 46, .int (nI D)] S n (fun r S' n' => n = n' ∧ r = none ∧ GS θ S' n ∧ fr1 [79] S S' n ∧ ∃ g, S' 79 = it79 g ∧ ioD D g0 g ∧ ∀ i, i < 60 → g (60 * D + i) = 0) := by
  have hn := gs_n hG
  obtain ⟨fs, k46, hf46⟩ := gs_obj hG (k := 46) rfl
  have f39 : fs[39]? = some (.ref 79) := fo_ref (hf46 39 _ rfl) rfl
  have hd : 0 ≤ nI D ∧ nI D < 8 := by
    rw [Int32.lt_iff_toInt_lt, Int32.le_iff_toInt_le, nI_toInt (by omega)]
    have e0 : (0 : Int32).toInt = 0 := rfl
    have e8 : (8 : Int32).toInt = 8 := rfl
    omega
  refine pm_weak (pm_and (w_clr hG hd) (l_clrX hD hn k46 f39 k79)) (fun r T m h => ?_)
  obtain ⟨⟨rfl, hr, hT, eT⟩, T2, eq, g, t79, h1, h2⟩ := h
  exact ⟨rfl, hr, hT, eT, g, (hp_at eq (by omega)).symm.trans t79, h1, h2⟩
theorem dn8 {d : Int32} (h : 0 ≤ d ∧ d < 8) : ∃ D, D < 8 ∧ d = nI D := by
  rw [Int32.le_iff_toInt_le, Int32.lt_iff_toInt_lt] at h
  have e8 : (8 : Int32).toInt = 8 := rfl
  obtain ⟨D, hD, e⟩ := nat_of (x := d) (b := 7) h.1 (by omega)
  exact ⟨D, by omega, e⟩
theorem w_clrY {d : Int32} (hG : GS θ S n) (hd : 0 ≤ d ∧ d < 8) (k79 : S 79 = it79 g0) : PM (j_SL L) (j_SV xs) j_EX mm_X12_clear [.ref 46, .int d] S n (fun r S' n' => n = n' ∧ r = none ∧ GS θ S' n ∧ fr1 [79] S S' n ∧ ∃ D, D < 8 ∧ d = nI D ∧ ∃ g, S' 79 = it79 g ∧ ioD D g0 g ∧ ∀ i, i < 60 → g (60 * D + i) = 0) := by
  obtain ⟨D, hD, rfl⟩ := dn8 hd
  refine pm_weak (w_clrX hG hD k79) (fun r T m h => ?_)
  obtain ⟨h1, h2, h3, h4, h5⟩ := h
  exact ⟨h1, h2, h3, h4, D, hD, rfl, h5⟩
def rmkX (θ : Th) (d w x : Int32) (g0 : Nat → Int64) (S : Nat → pm_E) (n : Nat) : q_K := fun r S' n' => n = n' ∧ GS θ S' n ∧ fr1 [75, 78, 79] S S' n ∧ ∃ z : Int32, r = some (.int z) ∧ mkR d w x z ∧ ((z ≠ 0 ∧ S = S') ∨ (z = 0 ∧ ∃ hf sf : Nat → Int32, S 75 = .inl (0, 8, .inl hf) ∧ S 78 = .inl (0, 8, .inl sf) ∧ S' 75 = .inl (0, 8, .inl (upd hf d.toNatClampNeg w)) ∧ S' 78 = .inl (0, 8, .inl (upd sf d.toNatClampNeg x)) ∧ ∃ D, D < 8 ∧ d = nI D ∧ ∃ g, S' 79 = it79 g ∧ ioD D g0 g ∧ ∀ i, i < 60 → g (60 * D + i) = 0))
set_option maxHeartbeats 4000000 in
theorem l_rmkX {d w x : Int32} (hG : GS θ S n) (k79 : S 79 = it79 g0) : PM (j_SL L) (j_SV xs) j_EX mm_X12_make [.ref 46, .int d, .int w, .int x] S n (rmkX θ d w x g0 S n) := by
  have hn := gs_n hG
  obtain ⟨fs, k46, hf46⟩ := gs_obj hG (k := 46) rfl
  obtain ⟨hf, k75, b75⟩ := gs_a1 hG (k := 75) rfl
  obtain ⟨sf, k78, b78⟩ := gs_a1 hG (k := 78) rfl
  have f35 : fs[35]? = some (.ref 75) := fo_ref (hf46 35 _ rfl) rfl
  have f38 : fs[38]? = some (.ref 78) := fo_ref (hf46 38 _ rfl) rfl
  change PQ (j_SL L) (j_SV xs) j_EX mm_X12_make 0 [.ref 46, .int d, .int w, .int x] [] S n 0 0 _
  have bad : ¬ mkO d w x → PQ (j_SL L) (j_SV xs) j_EX mm_X12_make 24 [.ref 46, .int d, .int w, .int x] [] S n 0 0 (rmkX θ d w x g0 S n) := by
    intro hO
    refine q_iconst rfl rfl ?_
    exact q_iret rfl rfl trivial ⟨rfl, hG, fr1_rf, -1, rfl, Or.inl ⟨hO, rfl⟩, Or.inl ⟨by decide, rfl⟩⟩
  refine q_aload_n rfl rfl rfl ?_
  refine q_iload_n rfl rfl rfl ?_
  refine q_cV rfl rfl (Or.inl rfl) rfl rfl rfl rfl (by omega) k46 trivial rfl rfl rfl rfl rfl (l_isShelf hn k46) ?_
  rintro r S1 n1 ⟨e1, e2, hr⟩
  obtain rfl := e1.symm
  obtain rfl := e2.symm
  rcases hr with ⟨q, rfl⟩ | ⟨q, rfl⟩
  · show PQ (j_SL L) (j_SV xs) j_EX mm_X12_make 5 _ [.int 0] S n 0 0 _
    exact q_ifeq rfl rfl (fun _ => bad (fun h => q (in07.mpr h.1))) (fun c => absurd rfl c)
  show PQ (j_SL L) (j_SV xs) j_EX mm_X12_make 5 _ [.int 1] S n 0 0 _
  refine q_ifeq rfl rfl (fun c => absurd c (by decide)) (fun _ => ?_)
  refine q_aload_n rfl rfl rfl ?_
  refine q_iload_n rfl rfl rfl ?_
  refine q_iconst rfl rfl ?_
  refine q_iconst rfl rfl ?_
  refine q_cV rfl rfl (Or.inl rfl) rfl rfl rfl rfl (by omega) k46 trivial rfl rfl rfl rfl rfl l_in ?_
  rintro r S1 n1 ⟨e1, e2, hr⟩
  obtain rfl := e1.symm
  obtain rfl := e2.symm
  rcases hr with ⟨q2, rfl⟩ | ⟨q2, rfl⟩
  · show PQ (j_SL L) (j_SV xs) j_EX mm_X12_make 15 _ [.int 0] S n 0 0 _
    exact q_ifeq rfl rfl (fun _ => bad (fun h => q2 (in34.mpr h.2.1))) (fun c => absurd rfl c)
  show PQ (j_SL L) (j_SV xs) j_EX mm_X12_make 15 _ [.int 1] S n 0 0 _
  refine q_ifeq rfl rfl (fun c => absurd c (by decide)) (fun _ => ?_)
  refine q_iload_n rfl rfl rfl ?_
  refine q_bipush rfl rfl ?_
  refine q_icle rfl rfl (fun c6 => ?_) (fun c6 => bad (fun h => c6 h.2.2))
  have hd := in07.mp q
  have hO : mkO d w x := ⟨hd, in34.mp q2, c6⟩
  obtain ⟨hi, hd8⟩ := c_in8 hd
  refine q_iload_n rfl rfl rfl ?_
  refine q_ifge rfl rfl (fun c0 => ?_) (fun c0 => ?_)
  · have hx0 : ¬ x < 0 := fun h => i_ab h c0
    have hv75 : (0 : Int) ≤ w.toInt ∧ w.toInt ≤ 4 := by
      rcases hO.2.1 with rfl | rfl <;> decide
    have hv78 : (0 : Int) ≤ x.toInt ∧ x.toInt ≤ 60 := by
      rw [Int32.le_iff_toInt_le] at c0 c6
      exact ⟨c0, c6⟩
    refine q_aload_n rfl rfl rfl ?_
    refine q_getf rfl rfl (by omega) k46 f35 ?_
    refine q_iload_n rfl rfl rfl ?_
    refine q_iload_n rfl rfl rfl ?_
    refine q_iast rfl rfl (by omega) k75 hi ?_
    have g1 : GS θ (va_up S 75 (.inl (0, 8, .inl (upd hf d.toNatClampNeg w)))) n := gs_ia hG (k := 75) rfl rfl k75 hv75
    refine q_aload_n rfl rfl rfl ?_
    refine q_getf rfl rfl (by omega) ((u_ne (by decide)).trans k46) f38 ?_
    refine q_iload_n rfl rfl rfl ?_
    refine q_iload_n rfl rfl rfl ?_
    refine q_iast rfl rfl (by omega) ((u_ne (by decide)).trans k78) hi ?_
    have t79 : va_up (va_up S 75 (.inl (0, 8, .inl (upd hf d.toNatClampNeg w)))) 78 (.inl (0, 8, .inl (upd sf d.toNatClampNeg x))) 79 = it79 g0 := (u_ne (by decide)).trans ((u_ne (by decide)).trans k79)
    have g2 := gs_ia (X := d.toNatClampNeg) (v := x) g1 (k := 78) rfl rfl ((u_ne (by decide)).trans k78) hv78
    refine q_aload_n rfl rfl rfl ?_
    refine q_iload_n rfl rfl rfl ?_
    refine q_cV rfl rfl (Or.inl rfl) rfl rfl rfl rfl (by omega) ((u_ne (by decide)).trans ((u_ne (by decide)).trans k46)) trivial rfl rfl rfl rfl rfl (w_clrY g2 hd t79) ?_
    rintro r T n9 ⟨rfl, rfl, hT, eT, D, hD, eD, g, t79, hio, hz⟩
    show PQ (j_SL L) (j_SV xs) j_EX mm_X12_make 52 _ [] T n 0 0 _
    refine q_iconst rfl rfl ?_
    refine q_iret rfl rfl trivial ⟨rfl, hT, ?_, 0, rfl, Or.inr (Or.inr ⟨hO, hx0, rfl⟩), Or.inr ⟨rfl, hf, sf, k75, k78, (eT 75 (by omega) rfl).trans ((u_ne (by decide)).trans u_eq), (eT 78 (by omega) rfl).trans u_eq, D, hD, eD, g, t79, hio, hz⟩⟩
    exact fr1_tr (fr1_up (k := 78) (l := [75, 78]) (fr1_up (k := 75) (l := [75, 78]) fr1_rf rfl) rfl) eT rfl rfl
  · have hx0 : x < 0 := i_nle c0
    refine q_bipush rfl rfl ?_
    exact q_iret rfl rfl trivial ⟨rfl, hG, fr1_rf, -14, rfl, Or.inr (Or.inl ⟨hO, hx0, rfl⟩), Or.inl ⟨by decide, rfl⟩⟩
set_option maxHeartbeats 4000000 in
/-- the loops that lay the items: those of the run, those of a hand -/
theorem rk_runX {D H : Nat} {w k x : Int32} {K : q_K} {a6 : Value} {rn : Nat → Int32} (hG : GS θ S n) (hD : D < 8) (hH : H ≤ 3) (eH : θ.2.2.2.2 = nI H) (k54 : S 54 = .inl (0, 20, .inl rn)) (k79 : S 79 = it79 g0) (hK : ∀ T, GS θ T n → (∀ j, j ≠ 79 → T j = S j) → (∃ g, T 79 = it79 g ∧ ioD D g0 g ∧ (∀ i, i < 4 → g (60 * D + i) = (rn (12 + i)).toInt64) ∧ ∀ q, q < H → g (60 * D + (4 + q)) = (rn (4 * q + 1)).toInt64) → K (some (.int 0)) T n) : PQ (j_SL L) (j_SV xs) j_EX mm_X12_keep 148 [.ref 46, .int (nI D), .int w, .int k, .int x, .int 1, pm_un] [] S n 0 0 K := by
  have hn := gs_n hG
  obtain ⟨mn, fk, fa, fn, fs, k47, k48, k49, k50, k46, m5, m6, f1, hd, hm, hf⟩ := xm_get hG
  have f39 : fs[39]? = some (.ref 79) := fo_ref (hf 39 _ rfl) rfl
  have f10 : fs[10]? = some (.ref 54) := fo_ref (hf 10 _ rfl) rfl
  have fin : ∀ (T : Nat → pm_E) (g : Nat → Int64) (b6 : Value), (∀ j, j ≠ 79 → T j = S j) → T 79 = it79 g → ioD D g0 g → (∀ i, i < 4 → g (60 * D + i) = (rn (12 + i)).toInt64) → (∀ q, q < H → g (60 * D + (4 + q)) = (rn (4 * q + 1)).toInt64) → PQ (j_SL L) (j_SV xs) j_EX mm_X12_keep 230 [.ref 46, .int (nI D), .int w, .int k, .int x, .int 1, b6] [] T n 0 0 K := by
    intro T g b6 eT t79 h1 h2 h3
    refine q_goto rfl ?_
    refine q_iconst rfl rfl ?_
    exact q_iret rfl rfl trivial (hK T (gs_79 hG eT t79) eT ⟨g, t79, h1, h2, h3⟩)
  have l2 : ∀ m j : Nat, j + m = H → ∀ (T : Nat → pm_E) (g : Nat → Int64), (∀ j, j ≠ 79 → T j = S j) → T 79 = it79 g → ioD D g0 g → (∀ i, i < 4 → g (60 * D + i) = (rn (12 + i)).toInt64) → (∀ q, q < j → g (60 * D + (4 + q)) = (rn (4 * q + 1)).toInt64) → PQ (j_SL L) (j_SV xs) j_EX mm_X12_keep 189 [.ref 46, .int (nI D), .int w, .int k, .int x, .int 1, .int (nI j)] [] T n 0 0 K := by
    intro m
    induction m with
    | zero =>
      intro j hj T g eT t79 h1 h2 h3
      refine q_iload rfl rfl rfl ?_
      refine q_aload_n rfl rfl rfl ?_
      refine q_getf rfl rfl (by omega) ((eT 46 (by decide)).trans k46) f1 ?_
      refine q_icge rfl rfl (fun _ => fin T g _ eT t79 h1 h2 (fun q hq => h3 q (by omega))) (fun c => absurd ?_ c)
      rw [eH, show j = H by omega, Int32.le_iff_toInt_le]
      exact Int.le_refl _
    | succ m ih =>
      intro j hj T g eT t79 h1 h2 h3
      refine q_iload rfl rfl rfl ?_
      refine q_aload_n rfl rfl rfl ?_
      refine q_getf rfl rfl (by omega) ((eT 46 (by decide)).trans k46) f1 ?_
      refine q_icge rfl rfl (fun c => absurd c (by rw [eH]; exact nI_ge (a := j) (b := H) (by omega) (by omega))) (fun _ => ?_)
      refine q_aload_n rfl rfl rfl ?_
      refine q_getf rfl rfl (by omega) ((eT 46 (by decide)).trans k46) f39 ?_
      refine q_bipush rfl rfl ?_
      refine q_iload_n rfl rfl rfl ?_
      refine q_imul rfl rfl (q_tn (z := nI (60 * D)) (by rw [show (60 : Int32) = nI 60 from rfl, pk_mul]) ?_)
      refine q_iconst rfl rfl ?_
      refine q_iadd rfl rfl (q_tn (z := nI (60 * D + 4)) (nI_add _ 4) ?_)
      refine q_iload rfl rfl rfl ?_
      refine q_iadd rfl rfl (q_tn (z := nI (60 * D + (4 + j))) (by rw [← Nat.add_assoc]; exact nI_add _ _) ?_)
      refine q_aload_n rfl rfl rfl ?_
      refine q_getf rfl rfl (by omega) ((eT 46 (by decide)).trans k46) f10 ?_
      refine q_iconst rfl rfl ?_
      refine q_iload rfl rfl rfl ?_
      refine q_imul rfl rfl (q_tn (z := nI (4 * j)) (by rw [show (4 : Int32) = nI 4 from rfl, pk_mul]) ?_)
      refine q_iconst rfl rfl ?_
      refine q_iadd rfl rfl (q_tn (z := nI (4 * j + 1)) (nI_add _ 1) ?_)
      refine q_iald rfl rfl (by omega) ((eT 54 (by decide)).trans k54) (q_inN (by omega) (by decide)) ?_
      refine q_i2l rfl rfl ?_
      refine q_last rfl rfl (by omega) t79 (q_inN (by omega) (by decide)) ?_
      rw [nI_clamp (n := 60 * D + (4 + j)) (by omega), nI_clamp (n := 4 * j + 1) (by omega)]
      refine q_inc6 rfl rfl rfl rfl ?_
      refine q_goto rfl ?_
      rw [show nI j + 1 = nI (j + 1) from nI_add j 1]
      refine ih (j + 1) (by omega) _ _ (fun i hi => (u_ne hi).trans (eT i hi)) u_eq (io_up h1 (by omega)) (fun i hi => (tL_ot (by omega)).trans (h2 i hi)) (fun q hq => ?_)
      by_cases e : q = j
      · rw [e]
        exact tL_at
      · exact (tL_ot (by omega)).trans (h3 q (by omega))
  have l1 : ∀ m j : Nat, j + m = 4 → ∀ (T : Nat → pm_E) (g : Nat → Int64), (∀ j, j ≠ 79 → T j = S j) → T 79 = it79 g → ioD D g0 g → (∀ i, i < j → g (60 * D + i) = (rn (12 + i)).toInt64) → PQ (j_SL L) (j_SV xs) j_EX mm_X12_keep 151 [.ref 46, .int (nI D), .int w, .int k, .int x, .int 1, .int (nI j)] [] T n 0 0 K := by
    intro m
    induction m with
    | zero =>
      intro j hj T g eT t79 h1 h2
      have e : j = 4 := by omega
      subst e
      refine q_iload rfl rfl rfl ?_
      refine q_iconst rfl rfl ?_
      refine q_icge rfl rfl (fun _ => ?_) (fun c => absurd (by decide) c)
      refine q_iconst rfl rfl ?_
      refine q_ist6 rfl rfl rfl rfl ?_
      exact l2 H 0 (by omega) T g eT t79 h1 h2 (fun q hq => absurd hq (Nat.not_lt_zero q))
    | succ m ih =>
      intro j hj T g eT t79 h1 h2
      refine q_iload rfl rfl rfl ?_
      refine q_iconst rfl rfl ?_
      refine q_icge rfl rfl (fun c => absurd c (nI_ge (a := j) (b := 4) (by omega) (by decide))) (fun _ => ?_)
      refine q_aload_n rfl rfl rfl ?_
      refine q_getf rfl rfl (by omega) ((eT 46 (by decide)).trans k46) f39 ?_
      refine q_bipush rfl rfl ?_
      refine q_iload_n rfl rfl rfl ?_
      refine q_imul rfl rfl (q_tn (z := nI (60 * D)) (by rw [show (60 : Int32) = nI 60 from rfl, pk_mul]) ?_)
      refine q_iload rfl rfl rfl ?_
      refine q_iadd rfl rfl (q_tn (z := nI (60 * D + j)) (nI_add _ _) ?_)
      refine q_aload_n rfl rfl rfl ?_
      refine q_getf rfl rfl (by omega) ((eT 46 (by decide)).trans k46) f10 ?_
      refine q_bipush rfl rfl ?_
      refine q_iload rfl rfl rfl ?_
      refine q_iadd rfl rfl (q_tn (z := nI (12 + j)) (nI_add 12 j) ?_)
      refine q_iald rfl rfl (by omega) ((eT 54 (by decide)).trans k54) (q_inN (by omega) (by decide)) ?_
      refine q_i2l rfl rfl ?_
      refine q_last rfl rfl (by omega) t79 (q_inN (by omega) (by decide)) ?_
      rw [nI_clamp (n := 60 * D + j) (by omega), nI_clamp (n := 12 + j) (by omega)]
      refine q_inc6 rfl rfl rfl rfl ?_
      refine q_goto rfl ?_
      rw [show nI j + 1 = nI (j + 1) from nI_add j 1]
      refine ih (j + 1) (by omega) _ _ (fun i hi => (u_ne hi).trans (eT i hi)) u_eq (io_up h1 (by omega)) (fun q hq => ?_)
      by_cases e : q = j
      · rw [e]
        exact tL_at
      · exact (tL_ot (by omega)).trans (h2 q (by omega))
  refine q_iconst rfl rfl ?_
  refine q_ist6 rfl rfl rfl rfl ?_
  exact l1 4 0 rfl S g0 (fun _ _ => rfl) k79 io_rf (fun q hq => absurd hq (Nat.not_lt_zero q))
set_option maxHeartbeats 4000000 in
theorem rk_hndX {D X H : Nat} {w x : Int32} {K : q_K} (hG : GS θ S n) (hD : D < 8) (hX : X < 3) (hH : H ≤ 8) (eH : θ.1 X = nI H) (k79 : S 79 = it79 g0) (hK : ∀ T, GS θ T n → (∀ j, j ≠ 79 → T j = S j) → (∃ g, T 79 = it79 g ∧ ioD D g0 g ∧ ∀ i, i < H → g (60 * D + i) = (θ.2.1 (8 * X + i)).toInt64) → K (some (.int 0)) T n) : PQ (j_SL L) (j_SV xs) j_EX mm_X12_keep 250 [.ref 46, .int (nI D), .int w, .int (nI X), .int x, .int 1, pm_un] [] S n 0 0 K := by
  have hn := gs_n hG
  obtain ⟨mn, fk, fa, fn, fs, k47, k48, k49, k50, k46, m5, m6, f1, hd, hm, hf⟩ := xm_get hG
  have f39 : fs[39]? = some (.ref 79) := fo_ref (hf 39 _ rfl) rfl
  have f2 : fs[2]? = some (.ref 47) := fo_ref (hf 2 _ rfl) rfl
  have f3 : fs[3]? = some (.ref 48) := fo_ref (hf 3 _ rfl) rfl
  have hmX := hm X hX
  have l2 : ∀ m j : Nat, j + m = H → ∀ (T : Nat → pm_E) (g : Nat → Int64), (∀ j, j ≠ 79 → T j = S j) → T 79 = it79 g → ioD D g0 g → (∀ i, i < j → g (60 * D + i) = (θ.2.1 (8 * X + i)).toInt64) → PQ (j_SL L) (j_SV xs) j_EX mm_X12_keep 253 [.ref 46, .int (nI D), .int w, .int (nI X), .int x, .int 1, .int (nI j)] [] T n 0 0 K := by
    intro m
    induction m with
    | zero =>
      intro j hj T g eT t79 h1 h2
      refine q_iload rfl rfl rfl ?_
      refine q_aload_n rfl rfl rfl ?_
      refine q_getf rfl rfl (by omega) ((eT 46 (by decide)).trans k46) f2 ?_
      refine q_iload_n rfl rfl rfl ?_
      refine q_iald rfl rfl (by omega) ((eT 47 (by decide)).trans k47) (q_inN (by omega) (by decide)) (q_tn (z := nI H) (by rw [nI_clamp (by omega), m5 X hX, eH]) ?_)
      refine q_icge rfl rfl (fun _ => ?_) (fun c => absurd ?_ c)
      · refine q_iconst rfl rfl ?_
        exact q_iret rfl rfl trivial (hK T (gs_79 hG eT t79) eT ⟨g, t79, h1, fun i hi => h2 i (by omega)⟩)
      · rw [show j = H by omega, Int32.le_iff_toInt_le]
        exact Int.le_refl _
    | succ m ih =>
      intro j hj T g eT t79 h1 h2
      refine q_iload rfl rfl rfl ?_
      refine q_aload_n rfl rfl rfl ?_
      refine q_getf rfl rfl (by omega) ((eT 46 (by decide)).trans k46) f2 ?_
      refine q_iload_n rfl rfl rfl ?_
      refine q_iald rfl rfl (by omega) ((eT 47 (by decide)).trans k47) (q_inN (by omega) (by decide)) (q_tn (z := nI H) (by rw [nI_clamp (by omega), m5 X hX, eH]) ?_)
      refine q_icge rfl rfl (fun c => absurd c (nI_ge (a := j) (b := H) (by omega) (by omega))) (fun _ => ?_)
      refine q_aload_n rfl rfl rfl ?_
      refine q_getf rfl rfl (by omega) ((eT 46 (by decide)).trans k46) f39 ?_
      refine q_bipush rfl rfl ?_
      refine q_iload_n rfl rfl rfl ?_
      refine q_imul rfl rfl (q_tn (z := nI (60 * D)) (by rw [show (60 : Int32) = nI 60 from rfl, pk_mul]) ?_)
      refine q_iload rfl rfl rfl ?_
      refine q_iadd rfl rfl (q_tn (z := nI (60 * D + j)) (nI_add _ _) ?_)
      refine q_aload_n rfl rfl rfl ?_
      refine q_getf rfl rfl (by omega) ((eT 46 (by decide)).trans k46) f3 ?_
      refine q_bipush rfl rfl ?_
      refine q_iload_n rfl rfl rfl ?_
      refine q_imul rfl rfl (q_tn (z := nI (8 * X)) (by rw [show (8 : Int32) = nI 8 from rfl, pk_mul]) ?_)
      refine q_iload rfl rfl rfl ?_
      refine q_iadd rfl rfl (q_tn (z := nI (8 * X + j)) (nI_add _ _) ?_)
      refine q_iald rfl rfl (by omega) ((eT 48 (by decide)).trans k48) (q_inN (by omega) (by decide)) ?_
      refine q_i2l rfl rfl ?_
      refine q_last rfl rfl (by omega) t79 (q_inN (by omega) (by decide)) ?_
      rw [nI_clamp (n := 60 * D + j) (by omega), nI_clamp (n := 8 * X + j) (by omega), (m6 (8 * X + j) (by omega)).1]
      refine q_inc6 rfl rfl rfl rfl ?_
      refine q_goto rfl ?_
      rw [show nI j + 1 = nI (j + 1) from nI_add j 1]
      refine ih (j + 1) (by omega) _ _ (fun i hi => (u_ne hi).trans (eT i hi)) u_eq (io_up h1 (by omega)) (fun q hq => ?_)
      by_cases e : q = j
      · rw [e]
        exact tL_at
      · exact (tL_ot (by omega)).trans (h2 q (by omega))
  refine q_iconst rfl rfl ?_
  refine q_ist6 rfl rfl rfl rfl ?_
  exact l2 H 0 (by omega) S g0 (fun _ _ => rfl) k79 io_rf (fun q hq => absurd hq (Nat.not_lt_zero q))
/-- what the reference's keep does to its shelves, with what they hold -/
def rkpT (θ : Th) (D : Nat) (w k x : Int32) (g0 : Nat → Int64) (rn : Nat → Int32) (S S' : Nat → pm_E) : Prop := ∃ hf kf lf sf : Nat → Int32, S 75 = ar8 hf ∧ S 76 = ar8 kf ∧ S 77 = ar8 lf ∧ S 78 = ar8 sf ∧ S' 75 = ar8 (upd hf D w) ∧ ((w = 0 ∧ S' 76 = S 76 ∧ S' 77 = S 77 ∧ S' 78 = S 78) ∨ (w = 1 ∧ (∃ X I, stA θ k x X I ∧ S' 76 = ar8 (upd kf D (θ.2.1 (8 * X + I))) ∧ S' 77 = ar8 (upd lf D (θ.2.2.1 (8 * X + I)))) ∧ S' 78 = S 78) ∨ (w = 3 ∧ S' 76 = S 76 ∧ S' 77 = S 77 ∧ S' 78 = ar8 (upd sf D (4 + θ.2.2.2.2))) ∨ (w = 4 ∧ S' 76 = S 76 ∧ S' 77 = S 77 ∧ ∃ X, X < 3 ∧ k = nI X ∧ (X : Int) < θ.2.2.2.2.toInt ∧ S' 78 = ar8 (upd sf D (θ.1 X)))) ∧ ∃ g, S' 79 = it79 g ∧ ioD D g0 g ∧ (w = 3 → (∀ i, i < 4 → g (60 * D + i) = (rn (12 + i)).toInt64) ∧ ∀ H, H ≤ 3 → θ.2.2.2.2 = nI H → ∀ q, q < H → g (60 * D + (4 + q)) = (rn (4 * q + 1)).toInt64) ∧ (w = 4 → ∀ X H, X < 3 → H ≤ 8 → k = nI X → θ.1 X = nI H → ∀ i, i < H → g (60 * D + i) = (θ.2.1 (8 * X + i)).toInt64)
def rkpX (θ : Th) (d w k x : Int32) (g0 : Nat → Int64) (rn : Nat → Int32) (S : Nat → pm_E) (n : Nat) : q_K := fun r S' n' => n = n' ∧ GS θ S' n ∧ fr1 [75, 76, 77, 78, 79] S S' n ∧ ∃ z : Int32, r = some (.int z) ∧ kpR θ d w k x z ∧ ((z ≠ 0 ∧ S = S') ∨ (z = 0 ∧ rkpT θ d.toNatClampNeg w k x g0 rn S S'))
set_option maxHeartbeats 4000000 in
theorem rk_75X {D : Nat} {w k x : Int32} {rn : Nat → Int32} (k54 : S 54 = .inl (0, 20, .inl rn)) (k79 : S 79 = it79 g0) (hG : GS θ S n) (hD : D < 8) (hO : kpO θ (nI D) w k x) : PQ (j_SL L) (j_SV xs) j_EX mm_X12_keep 75 [.ref 46, .int (nI D), .int w, .int k, .int x, .int 1, pm_un] [] S n 0 0 (rkpX θ (nI D) w k x g0 rn S n) := by
  have hn := gs_n hG
  obtain ⟨fs, k46, hf46⟩ := gs_obj hG (k := 46) rfl
  obtain ⟨hf, k75, -⟩ := gs_a1 hG (k := 75) rfl
  obtain ⟨kf, k76, -⟩ := gs_a1 hG (k := 76) rfl
  obtain ⟨lf, k77, -⟩ := gs_a1 hG (k := 77) rfl
  obtain ⟨sf, k78, -⟩ := gs_a1 hG (k := 78) rfl
  have f35 : fs[35]? = some (.ref 75) := fo_ref (hf46 35 _ rfl) rfl
  refine q_aload_n rfl rfl rfl ?_
  refine q_getf rfl rfl (by omega) k46 f35 ?_
  refine q_iload_n rfl rfl rfl ?_
  refine q_iload_n rfl rfl rfl ?_
  refine q_iast rfl rfl (by omega) k75 (q_inN hD (by decide)) ?_
  rw [nI_clamp (by omega)]
  have g1 : GS θ (va_up S 75 (.inl (0, 8, .inl (upd hf D w)))) n := gs_ia hG (k := 75) rfl rfl k75 (kp_w hO)
  refine q_aload_n rfl rfl rfl ?_
  refine q_iload_n rfl rfl rfl ?_
  refine q_cV rfl rfl (Or.inl rfl) rfl rfl rfl rfl (by omega) ((u_ne (by decide)).trans k46) trivial rfl rfl rfl rfl rfl (w_clrX g1 hD ((u_ne (by decide)).trans k79)) ?_
  rintro r T n9 ⟨rfl, rfl, hT, eT, g1, t79, io1, hz1⟩
  show PQ (j_SL L) (j_SV xs) j_EX mm_X12_keep 87 [.ref 46, .int (nI D), .int w, .int k, .int x, .int 1, pm_un] [] T n 0 0 _
  obtain ⟨mn, fk, fa, fn, fs, k47, k48, k49, k50, k46, m5, m6, f1, hd, hm, hf46⟩ := xm_get hT
  have t75 : T 75 = ar8 (upd hf D w) := (eT 75 (by omega) rfl).trans u_eq
  have t76 : T 76 = ar8 kf := (eT 76 (by omega) rfl).trans ((u_ne (by decide)).trans k76)
  have t77 : T 77 = ar8 lf := (eT 77 (by omega) rfl).trans ((u_ne (by decide)).trans k77)
  have t78 : T 78 = ar8 sf := (eT 78 (by omega) rfl).trans ((u_ne (by decide)).trans k78)
  have t54 : T 54 = .inl (0, 20, .inl rn) := (eT 54 (by omega) rfl).trans ((u_ne (by decide)).trans k54)
  have f36 : fs[36]? = some (.ref 76) := fo_ref (hf46 36 _ rfl) rfl
  have f37 : fs[37]? = some (.ref 77) := fo_ref (hf46 37 _ rfl) rfl
  have f38 : fs[38]? = some (.ref 78) := fo_ref (hf46 38 _ rfl) rfl
  have f2 : fs[2]? = some (.ref 47) := fo_ref (hf46 2 _ rfl) rfl
  have f3 : fs[3]? = some (.ref 48) := fo_ref (hf46 3 _ rfl) rfl
  have f4 : fs[4]? = some (.ref 49) := fo_ref (hf46 4 _ rfl) rfl
  have frT : fr1 [75, 76, 77, 78, 79] S T n := fr1_tr (l := [75]) (fr1_up fr1_rf rfl) eT rfl rfl
  have fin : ∀ U, GS θ U n → fr1 [75, 76, 77, 78, 79] T U n → rkpT θ D w k x g0 rn S U → rkpX θ (nI D) w k x g0 rn S n (some (.int 0)) U n := by
    intro U hU eU hS
    exact ⟨rfl, hU, fr1_tr frT eU rfl rfl, 0, rfl, Or.inl ⟨hO, rfl⟩, Or.inr ⟨rfl, by rw [nI_clamp (by omega)]; exact hS⟩⟩
  have hed : S 75 = ar8 hf ∧ S 76 = ar8 kf ∧ S 77 = ar8 lf ∧ S 78 = ar8 sf := ⟨k75, k76, k77, k78⟩
  refine q_iload_n rfl rfl rfl ?_
  refine q_iconst rfl rfl ?_
  refine q_icne rfl rfl (fun c1 => ?_) (fun c1 => ?_)
  · have hst : stP θ k x := by
      rcases hO.2 with h | h | ⟨-, h⟩ | ⟨h, -⟩
      · exact absurd (c1.symm.trans h) (by decide)
      · exact absurd (c1.symm.trans h) (by decide)
      · exact h
      · exact absurd (c1.symm.trans h) (by decide)
    obtain ⟨X, I, hA⟩ := hst
    have hA0 := hA
    obtain ⟨hX, rfl, hXh, hI, rfl, hl⟩ := hA
    obtain ⟨e4, e5, e6⟩ := m6 (8 * X + I) (by omega)
    refine q_aload_n rfl rfl rfl ?_
    refine q_getf rfl rfl (by omega) k46 f36 ?_
    refine q_iload_n rfl rfl rfl ?_
    refine q_aload_n rfl rfl rfl ?_
    refine q_getf rfl rfl (by omega) k46 f3 ?_
    refine q_bipush rfl rfl ?_
    refine q_iload_n rfl rfl rfl ?_
    refine q_imul rfl rfl (q_tn (z := nI (8 * X)) (by rw [show (8 : Int32) = nI 8 from rfl, pk_mul]) ?_)
    refine q_iload rfl rfl rfl ?_
    refine q_iadd rfl rfl (q_tn (z := nI (8 * X + I)) (nI_add _ _) ?_)
    refine q_iald rfl rfl (by omega) k48 (q_inN (by omega) (by decide)) (q_tn (z := θ.2.1 (8 * X + I)) (by rw [nI_clamp (by omega)]; exact e4) ?_)
    refine q_iast rfl rfl (by omega) t76 (q_inN hD (by decide)) ?_
    rw [nI_clamp (n := D) (by omega)]
    have g2 : GS θ (va_up T 76 (.inl (0, 8, .inl (upd kf D (θ.2.1 (8 * X + I)))))) n := gs_ia hT (k := 76) rfl rfl t76 (fullI _)
    refine q_aload_n rfl rfl rfl ?_
    refine q_getf rfl rfl (by omega) ((u_ne (by decide)).trans k46) f37 ?_
    refine q_iload_n rfl rfl rfl ?_
    refine q_aload_n rfl rfl rfl ?_
    refine q_getf rfl rfl (by omega) ((u_ne (by decide)).trans k46) f4 ?_
    refine q_bipush rfl rfl ?_
    refine q_iload_n rfl rfl rfl ?_
    refine q_imul rfl rfl (q_tn (z := nI (8 * X)) (by rw [show (8 : Int32) = nI 8 from rfl, pk_mul]) ?_)
    refine q_iload rfl rfl rfl ?_
    refine q_iadd rfl rfl (q_tn (z := nI (8 * X + I)) (nI_add _ _) ?_)
    refine q_iald rfl rfl (by omega) ((u_ne (by decide)).trans k49) (q_inN (by omega) (by decide)) (q_tn (z := θ.2.2.1 (8 * X + I)) (by rw [nI_clamp (by omega)]; exact e5) ?_)
    refine q_iast rfl rfl (by omega) ((u_ne (by decide)).trans t77) (q_inN hD (by decide)) ?_
    rw [nI_clamp (n := D) (by omega)]
    have g3 := gs_ia (X := D) (v := θ.2.2.1 (8 * X + I)) g2 (k := 77) rfl rfl ((u_ne (by decide)).trans t77) (fullI _)
    refine q_goto rfl ?_
    refine q_iconst rfl rfl ?_
    refine q_iret rfl rfl trivial (fin _ g3 (fr1_up (fr1_up fr1_rf rfl) rfl) ⟨hf, kf, lf, sf, hed.1, hed.2.1, hed.2.2.1, hed.2.2.2, (u_ne (by decide)).trans ((u_ne (by decide)).trans t75), Or.inr (Or.inl ⟨c1, ⟨X, I, hA0, (u_ne (by decide)).trans u_eq, u_eq⟩, ((u_ne (by decide)).trans ((u_ne (by decide)).trans t78)).trans hed.2.2.2.symm⟩), g1, (u_ne (by decide)).trans ((u_ne (by decide)).trans t79), io1, fun h => absurd (c1.symm.trans h) (by decide), fun h => absurd (c1.symm.trans h) (by decide)⟩)
  refine q_iload_n rfl rfl rfl ?_
  refine q_iconst rfl rfl ?_
  refine q_icne rfl rfl (fun c3 => ?_) (fun c3 => ?_)
  · obtain ⟨H, hH, eH⟩ := nat_of (x := θ.2.2.2.2) (b := 3) (by omega) hd.2
    have e4 : (4 + θ.2.2.2.2).toInt = 4 + θ.2.2.2.2.toInt := by
      rw [eH, show (4 : Int32) + nI H = nI (4 + H) from nI_add 4 H, nI_toInt (by omega), nI_toInt (by omega)]
      omega
    refine q_aload_n rfl rfl rfl ?_
    refine q_getf rfl rfl (by omega) k46 f38 ?_
    refine q_iload_n rfl rfl rfl ?_
    refine q_iconst rfl rfl ?_
    refine q_aload_n rfl rfl rfl ?_
    refine q_getf rfl rfl (by omega) k46 f1 ?_
    refine q_iadd rfl rfl ?_
    refine q_iast rfl rfl (by omega) t78 (q_inN hD (by decide)) ?_
    rw [nI_clamp (n := D) (by omega)]
    have g2 : GS θ (va_up T 78 (.inl (0, 8, .inl (upd sf D (4 + θ.2.2.2.2))))) n := gs_ia hT (k := 78) rfl rfl t78 (by show (0 : Int) ≤ _ ∧ _ ≤ (60 : Int); omega)
    refine rk_runX (a6 := pm_un) g2 hD hH eH ((u_ne (by decide)).trans t54) ((u_ne (by decide)).trans t79) (fun U hU eU hI => ?_)
    obtain ⟨g2, u79, io2, c4, cH⟩ := hI
    refine fin U hU ?_ ⟨hf, kf, lf, sf, hed.1, hed.2.1, hed.2.2.1, hed.2.2.2, (eU 75 (by decide)).trans ((u_ne (by decide)).trans t75), Or.inr (Or.inr (Or.inl ⟨c3, ((eU 76 (by decide)).trans ((u_ne (by decide)).trans t76)).trans hed.2.1.symm, ((eU 77 (by decide)).trans ((u_ne (by decide)).trans t77)).trans hed.2.2.1.symm, (eU 78 (by decide)).trans u_eq⟩)), g2, u79, io_tr io1 io2, fun _ => ⟨c4, fun H9 h9 e9 q hq => cH q (by have := nI_inj (by omega) (by omega) (eH.symm.trans e9); omega)⟩, fun h => absurd (c3.symm.trans h) (by decide)⟩
    exact fr1_tr (l := [78]) (l2 := [79]) (fr1_up fr1_rf rfl) (fun j _ hj => eU j (fun e => by rw [e] at hj; cases hj)) rfl rfl
  refine q_iload_n rfl rfl rfl ?_
  refine q_iconst rfl rfl ?_
  refine q_icne rfl rfl (fun c4 => ?_) (fun c4 => ?_)
  · have hkh : 0 ≤ k ∧ k < θ.2.2.2.2 := by
      rcases hO.2 with h | h | ⟨h, -⟩ | ⟨-, h⟩
      · exact absurd (c4.symm.trans h) (by decide)
      · exact absurd (c4.symm.trans h) (by decide)
      · exact absurd (c4.symm.trans h) (by decide)
      · exact h
    obtain ⟨⟨X, hX, rfl, hXh⟩, -⟩ := hnd hd.1 hd.2 hkh
    have hmX := hm X hX
    refine q_aload_n rfl rfl rfl ?_
    refine q_getf rfl rfl (by omega) k46 f38 ?_
    refine q_iload_n rfl rfl rfl ?_
    refine q_aload_n rfl rfl rfl ?_
    refine q_getf rfl rfl (by omega) k46 f2 ?_
    refine q_iload_n rfl rfl rfl ?_
    refine q_iald rfl rfl (by omega) k47 (q_inN (by omega) (by decide)) (q_tn (z := θ.1 X) (by rw [nI_clamp (by omega)]; exact m5 X hX) ?_)
    refine q_iast rfl rfl (by omega) t78 (q_inN hD (by decide)) ?_
    rw [nI_clamp (n := D) (by omega)]
    have g2 : GS θ (va_up T 78 (.inl (0, 8, .inl (upd sf D (θ.1 X))))) n := gs_ia hT (k := 78) rfl rfl t78 (by show (0 : Int) ≤ _ ∧ _ ≤ (60 : Int); omega)
    obtain ⟨H, hH, eH⟩ := nat_of (x := θ.1 X) (b := 8) hmX.1 hmX.2
    refine rk_hndX g2 hD hX hH eH ((u_ne (by decide)).trans t79) (fun U hU eU hI => ?_)
    obtain ⟨g2, u79, io2, cH⟩ := hI
    refine fin U hU ?_ ⟨hf, kf, lf, sf, hed.1, hed.2.1, hed.2.2.1, hed.2.2.2, (eU 75 (by decide)).trans ((u_ne (by decide)).trans t75), Or.inr (Or.inr (Or.inr ⟨c4, ((eU 76 (by decide)).trans ((u_ne (by decide)).trans t76)).trans hed.2.1.symm, ((eU 77 (by decide)).trans ((u_ne (by decide)).trans t77)).trans hed.2.2.1.symm, X, hX, rfl, hXh, (eU 78 (by decide)).trans u_eq⟩)), g2, u79, io_tr io1 io2, fun h => absurd (c4.symm.trans h) (by decide), fun _ X9 H9 h7 h9 e8 e9 i hi => (by
      have ex := nI_inj (by omega) (by omega) e8
      subst ex
      exact cH i (by have := nI_inj (by omega) (by omega) (eH.symm.trans e9); omega))⟩
    exact fr1_tr (l := [78]) (l2 := [79]) (fr1_up fr1_rf rfl) (fun j _ hj => eU j (fun e => by rw [e] at hj; cases hj)) rfl rfl
  have c0 : w = 0 := by
    rcases hO.2 with h | h | ⟨h, -⟩ | ⟨h, -⟩
    · exact h
    · exact absurd h c3
    · exact absurd h c1
    · exact absurd h c4
  refine q_iconst rfl rfl ?_
  exact q_iret rfl rfl trivial (fin T hT fr1_rf ⟨hf, kf, lf, sf, hed.1, hed.2.1, hed.2.2.1, hed.2.2.2, t75, Or.inl ⟨c0, t76.trans hed.2.1.symm, t77.trans hed.2.2.1.symm, t78.trans hed.2.2.2.symm⟩, g1, t79, io1, fun h => absurd (c0.symm.trans h) (by decide), fun h => absurd (c0.symm.trans h) (by decide)⟩)
set_option maxHeartbeats 4000000 in
theorem l_rkpX {d w k x : Int32} {rn : Nat → Int32} (k54 : S 54 = .inl (0, 20, .inl rn)) (k79 : S 79 = it79 g0) (hG : GS θ S n) : PM (j_SL L) (j_SV xs) j_EX mm_X12_keep [.ref 46, .int d, .int w, .int k, .int x] S n (rkpX θ d w k x g0 rn S n) := by
  have hn := gs_n hG
  obtain ⟨mn, fk, fa, fn, fs, k47, k48, k49, k50, k46, m5, m6, f1, hd, hm, hf⟩ := xm_get hG
  have f2 : fs[2]? = some (.ref 47) := fo_ref (hf 2 _ rfl) rfl
  change PQ (j_SL L) (j_SV xs) j_EX mm_X12_keep 0 [.ref 46, .int d, .int w, .int k, .int x, pm_un, pm_un] [] S n 0 0 _
  have s65 : ¬ kpO θ d w k x → PQ (j_SL L) (j_SV xs) j_EX mm_X12_keep 65 [.ref 46, .int d, .int w, .int k, .int x, pm_un, pm_un] [] S n 0 0 (rkpX θ d w k x g0 rn S n) := by
    intro hO
    refine q_iconst rfl rfl ?_
    refine q_ist5 rfl rfl rfl rfl ?_
    refine q_iload rfl rfl rfl ?_
    refine q_ifne rfl rfl (fun _ => ?_) (fun c => absurd rfl c)
    refine q_iconst rfl rfl ?_
    exact q_iret rfl rfl trivial ⟨rfl, hG, fr1_rf, -1, rfl, Or.inr ⟨hO, rfl⟩, Or.inl ⟨by decide, rfl⟩⟩
  have s61 : kpO θ d w k x → PQ (j_SL L) (j_SV xs) j_EX mm_X12_keep 61 [.ref 46, .int d, .int w, .int k, .int x, pm_un, pm_un] [] S n 0 0 (rkpX θ d w k x g0 rn S n) := by
    intro hO
    obtain ⟨D, hD, rfl⟩ : ∃ D, D < 8 ∧ d = nI D := by
      have h8 := hO.1
      rw [Int32.le_iff_toInt_le, Int32.lt_iff_toInt_lt] at h8
      have e8 : (8 : Int32).toInt = 8 := rfl
      obtain ⟨D, hD, e⟩ := nat_of (x := d) (b := 7) h8.1 (by omega)
      exact ⟨D, by omega, e⟩
    refine q_iconst rfl rfl ?_
    refine q_goto rfl ?_
    refine q_ist5 rfl rfl rfl rfl ?_
    refine q_iload rfl rfl rfl ?_
    refine q_ifne rfl rfl (fun c => absurd c (by decide)) (fun _ => ?_)
    exact rk_75X k54 k79 hG hD hO
  refine q_aload_n rfl rfl rfl ?_
  refine q_iload_n rfl rfl rfl ?_
  refine q_cV rfl rfl (Or.inl rfl) rfl rfl rfl rfl (by omega) k46 trivial rfl rfl rfl rfl rfl (l_isShelf hn k46) ?_
  rintro r S1 n1 ⟨e1, e2, hr⟩
  obtain rfl := e1.symm
  obtain rfl := e2.symm
  rcases hr with ⟨q, rfl⟩ | ⟨q, rfl⟩
  · show PQ (j_SL L) (j_SV xs) j_EX mm_X12_keep 5 _ [.int 0] S n 0 0 _
    exact q_ifeq rfl rfl (fun _ => s65 (fun h => q (in07.mpr h.1))) (fun c => absurd rfl c)
  show PQ (j_SL L) (j_SV xs) j_EX mm_X12_keep 5 _ [.int 1] S n 0 0 _
  refine q_ifeq rfl rfl (fun c => absurd c (by decide)) (fun _ => ?_)
  have hd8 := in07.mp q
  have s48 : ¬ w = 0 → ¬ w = 3 → ¬ (w = 1 ∧ stP θ k x) → PQ (j_SL L) (j_SV xs) j_EX mm_X12_keep 48 [.ref 46, .int d, .int w, .int k, .int x, pm_un, pm_un] [] S n 0 0 (rkpX θ d w k x g0 rn S n) := by
    intro c0 c3 c1
    refine q_iload_n rfl rfl rfl ?_
    refine q_iconst rfl rfl ?_
    refine q_icne rfl rfl (fun c4 => ?_) (fun c4 => s65 ?_)
    · refine q_aload_n rfl rfl rfl ?_
      refine q_iload_n rfl rfl rfl ?_
      refine q_cV rfl rfl (Or.inl rfl) rfl rfl rfl rfl (by omega) k46 trivial rfl rfl rfl rfl rfl (l_isHand hn k46 f1) ?_
      rintro r S1 n1 ⟨e1, e2, hr⟩
      obtain rfl := e1.symm
      obtain rfl := e2.symm
      rcases hr with ⟨p, rfl⟩ | ⟨p, rfl⟩
      · show PQ (j_SL L) (j_SV xs) j_EX mm_X12_keep 58 _ [.int 0] S n 0 0 _
        refine q_ifeq rfl rfl (fun _ => s65 ?_) (fun c => absurd rfl c)
        rintro ⟨-, h | h | h | h⟩
        · exact c0 h
        · exact c3 h
        · exact c1 h
        · exact p ((hd_iff hd.1 hd.2).mpr h.2)
      · show PQ (j_SL L) (j_SV xs) j_EX mm_X12_keep 58 _ [.int 1] S n 0 0 _
        exact q_ifeq rfl rfl (fun c => absurd c (by decide)) (fun _ => s61 ⟨hd8, Or.inr (Or.inr (Or.inr ⟨c4, (hd_iff hd.1 hd.2).mp p⟩))⟩)
    · rintro ⟨-, h | h | h | h⟩
      · exact c0 h
      · exact c3 h
      · exact c1 h
      · exact c4 h.1
  refine q_iload_n rfl rfl rfl ?_
  refine q_ifeq rfl rfl (fun c0 => s61 ⟨hd8, Or.inl c0⟩) (fun c0 => ?_)
  refine q_iload_n rfl rfl rfl ?_
  refine q_iconst rfl rfl ?_
  refine q_iceq rfl rfl (fun c3 => s61 ⟨hd8, Or.inr (Or.inl c3)⟩) (fun c3 => ?_)
  refine q_iload_n rfl rfl rfl ?_
  refine q_iconst rfl rfl ?_
  refine q_icne rfl rfl (fun c1 => ?_) (fun c1 => s48 c0 c3 (fun h => c1 h.1))
  refine q_aload_n rfl rfl rfl ?_
  refine q_iload_n rfl rfl rfl ?_
  refine q_cV rfl rfl (Or.inl rfl) rfl rfl rfl rfl (by omega) k46 trivial rfl rfl rfl rfl rfl (l_isHand hn k46 f1) ?_
  rintro r S1 n1 ⟨e1, e2, hr⟩
  obtain rfl := e1.symm
  obtain rfl := e2.symm
  rcases hr with ⟨p, rfl⟩ | ⟨p, rfl⟩
  · show PQ (j_SL L) (j_SV xs) j_EX mm_X12_keep 27 _ [.int 0] S n 0 0 _
    refine q_ifeq rfl rfl (fun _ => s48 c0 c3 (fun h => ?_)) (fun c => absurd rfl c)
    obtain ⟨-, X, I, hX, rfl, hXh, -⟩ := h
    exact p ((hd_iff hd.1 hd.2).mpr ⟨by rw [Int32.le_iff_toInt_le, nI_toInt (by omega)]; show (0 : Int) ≤ _; omega, by rw [Int32.lt_iff_toInt_lt, nI_toInt (by omega)]; exact hXh⟩)
  show PQ (j_SL L) (j_SV xs) j_EX mm_X12_keep 27 _ [.int 1] S n 0 0 _
  refine q_ifeq rfl rfl (fun c => absurd c (by decide)) (fun _ => ?_)
  obtain ⟨X, hX, rfl, hXh⟩ := hand_of hd p
  have hmX := hm X hX
  refine q_aload_n rfl rfl rfl ?_
  refine q_iload rfl rfl rfl ?_
  refine q_iconst rfl rfl ?_
  refine q_aload_n rfl rfl rfl ?_
  refine q_getf rfl rfl (by omega) k46 f2 ?_
  refine q_iload_n rfl rfl rfl ?_
  refine q_iald rfl rfl (by omega) k47 (q_inN (by omega) (by decide)) (q_tn (z := θ.1 X) (by rw [nI_clamp (by omega)]; exact m5 X hX) ?_)
  refine q_iconst rfl rfl ?_
  refine q_isub rfl rfl ?_
  refine q_cV rfl rfl (Or.inl rfl) rfl rfl rfl rfl (by omega) k46 trivial rfl rfl rfl rfl rfl l_in ?_
  rintro r S1 n1 ⟨e1, e2, hr⟩
  obtain rfl := e1.symm
  obtain rfl := e2.symm
  have hst : inP x 0 (θ.1 X - 1) ↔ stP θ (nI X) x := in_st hX rfl hXh rfl hmX.1 hmX.2
  rcases hr with ⟨q1, rfl⟩ | ⟨q1, rfl⟩
  · show PQ (j_SL L) (j_SV xs) j_EX mm_X12_keep 45 _ [.int 0] S n 0 0 _
    exact q_ifne rfl rfl (fun _ => s48 c0 c3 (fun h => q1 (hst.mpr h.2))) (fun c => absurd rfl c)
  · show PQ (j_SL L) (j_SV xs) j_EX mm_X12_keep 45 _ [.int 1] S n 0 0 _
    exact q_ifne rfl rfl (fun c => absurd c (by decide)) (fun _ => s61 ⟨hd8, Or.inr (Or.inr (Or.inl ⟨c1, hst.mp q1⟩))⟩)
end TA
