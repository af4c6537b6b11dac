/-! way, step: class and reference -/
section JF
variable {θ : Th} {P : PG} {S S' : Nat → pm_E} {n : Nat} {L : Nat} {xs : Nat → Int32} {x y : Int32}
def wyQ (P : PG) (x r : Int32) : Prop := ∃ q, rfQ P x q ∧ ((q ≠ 0 ∧ r = q) ∨ (q = 0 ∧ ∃ s c, s < xN (xE P 0) ∧ x = nI s ∧ c < 2001 ∧ LN (xF (xE P 0)) (nI s) c ∧ r = nI c))
theorem wy_fn (hW : WFP P) (r r' : Int32) (h : wyQ P x r) (h' : wyQ P x r') : r = r' := by
  have hN := (xe_wx (k := 0) hW).1.2.1
  obtain ⟨q, a, b⟩ := h
  obtain ⟨q', a', b'⟩ := h'
  have e := rf_fn hW a a'
  subst e
  rcases b with ⟨b, rfl⟩ | ⟨b, s, c, hs, e1, hc, hL, rfl⟩ <;> rcases b' with ⟨b', rfl⟩ | ⟨b', s', c', hs', e2, hc', hL', rfl⟩
  · rfl
  · exact absurd b' b
  · exact absurd b b'
  · have e3 := nI_inj (by omega) (by omega) (e1.symm.trans e2)
    subst e3
    rw [LN_fn hL hL']
theorem rf_0 {q : Int32} (e : q = 0) (h : rfQ P x q) : xP (xE P 0) = false ∧ ∃ s, s < xN (xE P 0) ∧ x = nI s := by
  subst e
  rcases h with ⟨-, h⟩ | ⟨-, -, h⟩ | ⟨-, -, -, h⟩ | ⟨h1, h2, -⟩
  · exact absurd h (by decide)
  · exact absurd h (by decide)
  · exact absurd h (by decide)
  · exact ⟨h1, h2⟩
theorem xo_e (hW : WFP P) : XO (xE P 0) := by
  rw [xE_d]
  exact xo_all hW 2000
theorem og_f {og : Nat → Int32} (hW : WFP P) (h : ∀ j, j < xN (xE P 0) → og j = xF (xE P 0) j) : ∀ j, 0 < j → j < xN (xE P 0) → ∃ i, i < j ∧ og j = nI i := fun j h0 h1 => by
  rw [h j h1]
  exact xo_e hW j h0 h1
theorem og_l {og : Nat → Int32} (hW : WFP P) (h : ∀ j, j < xN (xE P 0) → og j = xF (xE P 0) j) : ∀ j, 0 < j → j < xN (xE P 0) → (og j).toInt < (j : Int) := fun j h0 h1 => by
  rw [h j h1]
  exact xo_lt (xo_e hW) (xe_wx (k := 0) hW).1.2.1 j h0 h1
set_option maxHeartbeats 4000000 in
theorem c_way (hG : GS θ S n) (hZ : JZ P S) : PM (j_SL L) (j_SV xs) j_EX mm_X11_way [.ref 0, .int x] S n (fun r S' n' => r = some (.int (epR (wyQ P x)))) := by
  have hn := gs_n hG
  obtain ⟨fs, k0, -, -, -⟩ := gs_0 hG
  have hN := (xe_wx (k := 0) hZ.1).1.2.1
  change PQ (j_SL L) (j_SV xs) j_EX mm_X11_way 0 [.ref 0, .int x, pm_un] [] S n 0 0 _
  refine q_aload_n rfl rfl rfl ?_
  refine q_iload_n rfl rfl rfl ?_
  refine q_cV rfl rfl (Or.inl rfl) rfl rfl rfl rfl (by omega) k0 trivial rfl rfl rfl rfl rfl (c_ref hG hZ) ?_
  rintro r T _ ⟨rfl, q, rfl, hq, hCS⟩
  show PQ (j_SL L) (j_SV xs) j_EX mm_X11_way 5 [.ref 0, .int x, pm_un] [.int q] T n 0 0 _
  refine q_ist2n rfl rfl rfl rfl ?_
  refine q_iload_n rfl rfl rfl ?_
  refine q_ifeq rfl rfl (fun e => ?_) (fun e => ?_)
  rotate_left
  · refine q_iload_n rfl rfl rfl ?_
    refine q_goto rfl ?_
    exact q_iret rfl rfl trivial (ep_r (wy_fn hZ.1) ⟨q, hq, Or.inl ⟨e, rfl⟩⟩)
  obtain ⟨hp1, s, hs, rfl⟩ := rf_0 e hq
  obtain ⟨ts, os, fo, og, mv, so, fw, t0, u1, u2, t8, o0, o4, o5, o6, o7, o8, t9, t10, t11, t12, t13, hfo, hog, hso, hfw⟩ := hCS e
  refine q_aload_n rfl rfl rfl ?_
  refine q_getf rfl rfl (by omega) t0 u2 ?_
  refine q_iload_n rfl rfl rfl ?_
  refine q_cV rfl rfl (Or.inl rfl) rfl rfl rfl rfl (by omega) t8 trivial rfl rfl rfl rfl rfl (o_wlen hn t8 o0 o5 t10 hN hs (og_f hZ.1 (fun j hj => (hog j hj).1))) ?_
  rintro r _ _ ⟨rfl, rfl, c, hc, rfl, hL⟩
  show PQ (j_SL L) (j_SV xs) j_EX mm_X11_way 22 [.ref 0, .int (nI s), .int q] [.int (nI c)] T n 0 0 _
  exact q_iret rfl rfl trivial (ep_r (wy_fn hZ.1) ⟨q, hq, Or.inr ⟨e, s, c, hs, rfl, by omega, LN_cg hN hs (fun j _ hj => (hog j hj).1) (og_l hZ.1 (fun j hj => (hog j hj).1)) hL, rfl⟩⟩)
theorem l_len {s : Nat} (hG : GS θ S n) (hW : WFP P) (hR : RSo P S) (hs : s < xN (xE P 0)) : PM (j_SL L) (j_SV xs) j_EX mm_X12_length [.ref 46, .int (nI s)] S n (fun r S' n' => S = S' ∧ n = n' ∧ ∃ c, c < 2001 ∧ r = some (.int (nI c)) ∧ LN (xF (xE P 0)) (nI s) c) := by
  have hn := gs_n hG
  have hN := (xe_wx (k := 0) hW).1.2.1
  obtain ⟨st, cf, cb, ch, sp, ct, nt, nx, nw0, ⟨gs, u46, g8, g9, g11, g12, g13, g14, g15, g16, g17, t53, t55, t56, t57, t58, t59, t60, t61, hct⟩, t52, hJ, h1, h2, h3⟩ := hR
  obtain ⟨cf', h56, b56⟩ := gs_a1 hG (k := 56) rfl
  have hx := xc_get hn hG.2 h56
  rw [t56] at h56
  cases h56
  have hcf : ∀ j, j < xN (xE P 0) → cf j = xF (xE P 0) j := fun j hj => by
    have := (h2 j hj).1
    rw [Nat.mul_zero, Nat.zero_add] at this
    exact this
  refine l_length hn u46 g12 t56 b56 hx (by rw [nI_toInt (by omega)]; omega) (by rw [nI_toInt (by omega)]; omega) (fun c h1 h2 => ⟨rfl, rfl, c, by omega, rfl, ?_⟩)
  exact LN_cg hN hs (fun j _ hj => hcf j hj) (og_l hW hcf) h2
set_option maxHeartbeats 4000000 in
theorem l_way (hG : GS θ S n) (hT : tie θ P) (hZ : JZ P S) : PM (j_SL L) (j_SV xs) j_EX mm_X12_way [.ref 46, .int x] S n (fun r S' n' => r = some (.int (epR (wyQ P x)))) := by
  have hn := gs_n hG
  obtain ⟨fs, k46, -⟩ := gs_obj hG (k := 46) rfl
  change PQ (j_SL L) (j_SV xs) j_EX mm_X12_way 0 [.ref 46, .int x] [] S n 0 0 _
  refine q_aload_n rfl rfl rfl ?_
  refine q_iload_n rfl rfl rfl ?_
  refine q_cV rfl rfl (Or.inl rfl) rfl rfl rfl rfl (by omega) k46 trivial rfl rfl rfl rfl rfl (l_lacks hG hT hZ) ?_
  rintro r T _ ⟨rfl, gT, zT, q, rfl, hq, hRS⟩
  obtain ⟨fs1, k1, -⟩ := gs_obj gT (k := 46) rfl
  show PQ (j_SL L) (j_SV xs) j_EX mm_X12_way 5 [.ref 46, .int x] [.int q] T n 0 0 _
  refine q_ifeq rfl rfl (fun e => ?_) (fun e => ?_)
  rotate_left
  · refine q_aload_n rfl rfl rfl ?_
    refine q_iload_n rfl rfl rfl ?_
    refine q_cV rfl rfl (Or.inl rfl) rfl rfl rfl rfl (by omega) k1 trivial rfl rfl rfl rfl rfl (l_lacks gT hT zT) ?_
    rintro r V _ ⟨rfl, gV, zV, q', rfl, hq', -⟩
    show PQ (j_SL L) (j_SV xs) j_EX mm_X12_way 13 [.ref 46, .int x] [.int q'] V n 0 0 _
    refine q_goto rfl ?_
    exact q_iret rfl rfl trivial (ep_r (wy_fn hZ.1) ⟨q', hq', Or.inl ⟨by rw [rf_fn hZ.1 hq' hq]; exact e, rfl⟩⟩)
  obtain ⟨hp1, s, hs, rfl⟩ := rf_0 e hq
  refine q_aload_n rfl rfl rfl ?_
  refine q_iload_n rfl rfl rfl ?_
  refine q_cV rfl rfl (Or.inl rfl) rfl rfl rfl rfl (by omega) k1 trivial rfl rfl rfl rfl rfl (l_len gT hZ.1 (hRS e) hs) ?_
  rintro r _ _ ⟨rfl, rfl, c, hc, rfl, hL⟩
  show PQ (j_SL L) (j_SV xs) j_EX mm_X12_way 21 [.ref 46, .int (nI s)] [.int (nI c)] T n 0 0 _
  exact q_iret rfl rfl trivial (ep_r (wy_fn hZ.1) ⟨q, hq, Or.inr ⟨e, s, c, hs, rfl, hc, hL, rfl⟩⟩)
def stQ (P : PG) (x y r : Int32) : Prop := (y < 0 ∧ r = -1) ∨ (0 ≤ y ∧ ∃ q, rfQ P x q ∧ ((q ≠ 0 ∧ r = q) ∨ (q = 0 ∧ ∃ s c, s < xN (xE P 0) ∧ x = nI s ∧ c < 2001 ∧ LN (xF (xE P 0)) (nI s) c ∧ ((nI c ≤ y ∧ r = -3) ∨ ∃ k m, k < c ∧ y = nI k ∧ m < xN (xE P 0) ∧ itc (xF (xE P 0)) (nI s) (c - 1 - k) = nI m ∧ r = xB (xE P 0) m))))
theorem st_fn (hW : WFP P) (r r' : Int32) (h : stQ P x y r) (h' : stQ P x y r') : r = r' := by
  have hN := (xe_wx (k := 0) hW).1.2.1
  rcases h with ⟨a, rfl⟩ | ⟨a, q, b, c⟩ <;> rcases h' with ⟨a', rfl⟩ | ⟨a', q', b', c'⟩
  · rfl
  · exact (i_ab a a').elim
  · exact (i_ab a' a).elim
  · have e := rf_fn hW b b'
    subst e
    rcases c with ⟨c, rfl⟩ | ⟨c, s, d, hs, e1, hd, hL, f⟩ <;> rcases c' with ⟨c', rfl⟩ | ⟨c', s', d', hs', e1', hd', hL', f'⟩
    · rfl
    · exact absurd c' c
    · exact absurd c c'
    · have e3 := nI_inj (by omega) (by omega) (e1.symm.trans e1')
      subst e3
      have e4 := LN_fn hL hL'
      subst e4
      have no : ∀ k : Nat, k < d → y = nI k → nI d ≤ y → False := fun k hk e h => by
        rw [e] at h
        have := (m_le (by omega) (by omega)).mp h
        omega
      rcases f with ⟨f, rfl⟩ | ⟨k, m, hk, ey, hm, ei, rfl⟩ <;> rcases f' with ⟨f', rfl⟩ | ⟨k', m', hk', ey', hm', ei', rfl⟩
      · rfl
      · exact (no k' hk' ey' f).elim
      · exact (no k hk ey f').elim
      · have e5 := nI_inj (by omega) (by omega) (ey.symm.trans ey')
        subst e5
        have e6 := nI_inj (by omega) (by omega) (ei.symm.trans ei')
        rw [e6]
theorem y_lt {c : Nat} (hc : c < 2001) (h0 : 0 ≤ y) (h : y < nI c) : ∃ k, k < c ∧ y = nI k := by
  rw [Int32.le_iff_toInt_le] at h0
  rw [Int32.lt_iff_toInt_lt, nI_toInt (by omega)] at h
  have e0 : (0 : Int32).toInt = 0 := rfl
  obtain ⟨k, hk, e⟩ := nI_rg (x := y) (m := 2001) (by omega) (by omega)
  rw [e, nI_toInt (by omega)] at h
  exact ⟨k, by omega, e⟩
set_option maxHeartbeats 4000000 in
theorem c_step (hG : GS θ S n) (hZ : JZ P S) : PM (j_SL L) (j_SV xs) j_EX mm_X11_step [.ref 0, .int x, .int y] S n (fun r S' n' => r = some (.int (epR (stQ P x y)))) := by
  have hn := gs_n hG
  obtain ⟨fs, k0, -, -, -⟩ := gs_0 hG
  have hN := (xe_wx (k := 0) hZ.1).1.2.1
  change PQ (j_SL L) (j_SV xs) j_EX mm_X11_step 0 [.ref 0, .int x, .int y, pm_un] [] S n 0 0 _
  refine q_iload_n rfl rfl rfl ?_
  refine q_ifge rfl rfl (fun y0 => ?_) (fun y0 => ?_)
  rotate_left
  · refine q_iconst rfl rfl ?_
    exact q_iret rfl rfl trivial (ep_r (st_fn hZ.1) (Or.inl ⟨nn_of y0, rfl⟩))
  refine q_aload_n rfl rfl rfl ?_
  refine q_iload_n rfl rfl rfl ?_
  refine q_cV rfl rfl (Or.inl rfl) rfl rfl rfl rfl (by omega) k0 trivial rfl rfl rfl rfl rfl (c_ref hG hZ) ?_
  rintro r T _ ⟨rfl, q, rfl, hq, hCS⟩
  show PQ (j_SL L) (j_SV xs) j_EX mm_X11_step 11 [.ref 0, .int x, .int y, pm_un] [.int q] T n 0 0 _
  refine q_ist3n rfl rfl rfl rfl ?_
  refine q_iload_n rfl rfl rfl ?_
  refine q_ifeq rfl rfl (fun e => ?_) (fun e => ?_)
  rotate_left
  · refine q_iload_n rfl rfl rfl ?_
    exact q_iret rfl rfl trivial (ep_r (st_fn hZ.1) (Or.inr ⟨y0, q, hq, Or.inl ⟨e, rfl⟩⟩))
  obtain ⟨hp1, s, hs, rfl⟩ := rf_0 e hq
  obtain ⟨ts, os, fo, og, mv, so, fw, t0, u1, u2, t8, o0, o4, o5, o6, o7, o8, t9, t10, t11, t12, t13, hfo, hog, hso, hfw⟩ := hCS e
  have hf := og_f hZ.1 (fun j hj => (hog j hj).1)
  refine q_iload_n rfl rfl rfl ?_
  refine q_aload_n rfl rfl rfl ?_
  refine q_getf rfl rfl (by omega) t0 u2 ?_
  refine q_iload_n rfl rfl rfl ?_
  refine q_cV rfl rfl (Or.inl rfl) rfl rfl rfl rfl (by omega) t8 trivial rfl rfl rfl rfl rfl (o_wlen hn t8 o0 o5 t10 hN hs hf) ?_
  rintro r _ _ ⟨rfl, rfl, c, hc, rfl, hL⟩
  have hL' : LN (xF (xE P 0)) (nI s) c := LN_cg hN hs (fun j _ hj => (hog j hj).1) (og_l hZ.1 (fun j hj => (hog j hj).1)) hL
  show PQ (j_SL L) (j_SV xs) j_EX mm_X11_step 27 [.ref 0, .int (nI s), .int y, .int q] [.int (nI c), .int y] T n 0 0 _
  refine q_iclt rfl rfl (fun h => ?_) (fun h => ?_)
  rotate_left
  · refine q_bipush rfl rfl ?_
    refine q_goto rfl ?_
    exact q_iret rfl rfl trivial (ep_r (st_fn hZ.1) (Or.inr ⟨y0, q, hq, Or.inr ⟨e, s, c, hs, rfl, by omega, hL', Or.inl ⟨i_nlt h, rfl⟩⟩⟩))
  obtain ⟨k, hk, rfl⟩ := y_lt (by omega) y0 h
  refine q_aload_n rfl rfl rfl ?_
  refine q_getf rfl rfl (by omega) t0 u2 ?_
  refine q_iload_n rfl rfl rfl ?_
  refine q_iload_n rfl rfl rfl ?_
  refine q_cV rfl rfl (Or.inl rfl) rfl rfl rfl rfl (by omega) t8 trivial rfl rfl rfl rfl rfl (o_whand hn t8 o0 o5 t10 hN hs hf o6 t11 hL hc hk) ?_
  rintro r _ _ ⟨rfl, rfl, m, hm, em, rfl⟩
  show PQ (j_SL L) (j_SV xs) j_EX mm_X11_step 44 [.ref 0, .int (nI s), .int (nI k), .int q] [.int (mv m)] T n 0 0 _
  have em' : itc (xF (xE P 0)) (nI s) (c - 1 - k) = nI m := (it_cg hN hs (fun j _ hj => (hog j hj).1) (og_l hZ.1 (fun j hj => (hog j hj).1)) hL (c - 1 - k) (by omega)).1.trans em
  exact q_iret rfl rfl trivial (ep_r (st_fn hZ.1) (Or.inr ⟨y0, q, hq, Or.inr ⟨e, s, c, hs, rfl, by omega, hL', Or.inr ⟨k, m, hk, rfl, hm, em', (hog m hm).2⟩⟩⟩))
theorem bk_i {c : Nat} (hc : c < 2001) (h0 : 0 ≤ y) : (nI c - 1 - y).toInt = (c : Int) - 1 - y.toInt := by
  rw [Int32.le_iff_toInt_le] at h0
  have e0 : (0 : Int32).toInt = 0 := rfl
  have b := (fullI y).2
  have e1 := m_sub (d := c) (by omega)
  have e2 : (nI c - 1 - y).toInt = ((nI c - 1).toInt - y.toInt).bmod 4294967296 := Int32.toInt_sub _ _
  rw [e2, e1]
  exact ck_bm (by unfold ck_lo; omega) (by unfold ck_hi; omega)
set_option maxHeartbeats 4000000 in
theorem l_step2 (hG : GS θ S n) (hT : tie θ P) (hZ : JZ P S) : PM (j_SL L) (j_SV xs) j_EX mm_X12_step [.ref 46, .int x, .int y] S n (fun r S' n' => r = some (.int (epR (stQ P x y)))) := by
  have hn := gs_n hG
  obtain ⟨fs, k46, -⟩ := gs_obj hG (k := 46) rfl
  have hN := (xe_wx (k := 0) hZ.1).1.2.1
  change PQ (j_SL L) (j_SV xs) j_EX mm_X12_step 0 [.ref 46, .int x, .int y, pm_un, pm_un, pm_un] [] S n 0 0 _
  have m8 : (x < 0 ∨ y < 0) → PQ (j_SL L) (j_SV xs) j_EX mm_X12_step 8 [.ref 46, .int x, .int y, pm_un, pm_un, pm_un] [] S n 0 0 (fun r S' n' => r = some (.int (epR (stQ P x y)))) := by
    intro h
    refine q_iconst rfl rfl ?_
    refine q_iret rfl rfl trivial (ep_r (st_fn hZ.1) ?_)
    by_cases y0 : y < 0
    · exact Or.inl ⟨y0, rfl⟩
    · exact Or.inr ⟨i_nlt y0, -1, Or.inl ⟨h.resolve_right y0, rfl⟩, Or.inl ⟨by decide, rfl⟩⟩
  refine q_iload_n rfl rfl rfl ?_
  refine q_iflt rfl rfl (fun h => m8 (Or.inl h)) (fun x0 => ?_)
  refine q_iload_n rfl rfl rfl ?_
  refine q_ifge rfl rfl (fun y0 => ?_) (fun h => m8 (Or.inr (nn_of h)))
  refine q_aload_n rfl rfl rfl ?_
  refine q_iload_n rfl rfl rfl ?_
  refine q_cV rfl rfl (Or.inl rfl) rfl rfl rfl rfl (by omega) k46 trivial rfl rfl rfl rfl rfl (l_lacks hG hT hZ) ?_
  rintro r T _ ⟨rfl, gT, zT, q, rfl, hq, hRS⟩
  obtain ⟨fs1, k1, -⟩ := gs_obj gT (k := 46) rfl
  show PQ (j_SL L) (j_SV xs) j_EX mm_X12_step 15 [.ref 46, .int x, .int y, pm_un, pm_un, pm_un] [.int q] T n 0 0 _
  refine q_ifeq rfl rfl (fun e => ?_) (fun e => ?_)
  rotate_left
  · refine q_aload_n rfl rfl rfl ?_
    refine q_iload_n rfl rfl rfl ?_
    refine q_cV rfl rfl (Or.inl rfl) rfl rfl rfl rfl (by omega) k1 trivial rfl rfl rfl rfl rfl (l_lacks gT hT zT) ?_
    rintro r V _ ⟨rfl, gV, zV, q', rfl, hq', -⟩
    show PQ (j_SL L) (j_SV xs) j_EX mm_X12_step 23 [.ref 46, .int x, .int y, pm_un, pm_un, pm_un] [.int q'] V n 0 0 _
    exact q_iret rfl rfl trivial (ep_r (st_fn hZ.1) (Or.inr ⟨y0, q', hq', Or.inl ⟨by rw [rf_fn hZ.1 hq' hq]; exact e, rfl⟩⟩))
  obtain ⟨hp1, s, hs, rfl⟩ := rf_0 e hq
  refine q_aload_n rfl rfl rfl ?_
  refine q_iload_n rfl rfl rfl ?_
  refine q_cV rfl rfl (Or.inl rfl) rfl rfl rfl rfl (by omega) k1 trivial rfl rfl rfl rfl rfl (l_len gT hZ.1 (hRS e) hs) ?_
  rintro r _ _ ⟨rfl, rfl, c, hc, rfl, hL⟩
  show PQ (j_SL L) (j_SV xs) j_EX mm_X12_step 29 [.ref 46, .int (nI s), .int y, pm_un, pm_un, pm_un] [.int (nI c)] T n 0 0 _
  have eb := bk_i hc y0
  have y0' := y0
  rw [Int32.le_iff_toInt_le] at y0'
  have e00 : (0 : Int32).toInt = 0 := rfl
  refine q_iconst rfl rfl ?_
  refine q_isub rfl rfl ?_
  refine q_iload_n rfl rfl rfl ?_
  refine q_isub rfl rfl ?_
  refine q_ist3n rfl rfl rfl rfl ?_
  refine q_iload_n rfl rfl rfl ?_
  refine q_ifge rfl rfl (fun h => ?_) (fun h => ?_)
  rotate_left
  · refine q_bipush rfl rfl ?_
    refine q_iret rfl rfl trivial (ep_r (st_fn hZ.1) (Or.inr ⟨y0, q, hq, Or.inr ⟨e, s, c, hs, rfl, hc, hL, Or.inl ⟨?_, rfl⟩⟩⟩))
    rw [Int32.le_iff_toInt_le, eb] at h
    rw [Int32.le_iff_toInt_le, nI_toInt (by omega)]
    omega
  have hlt : y < nI c := by
    rw [Int32.le_iff_toInt_le, eb] at h
    rw [Int32.lt_iff_toInt_lt, nI_toInt (by omega)]
    omega
  obtain ⟨k, hk, rfl⟩ := y_lt hc y0 hlt
  have eB : nI c - 1 - nI k = nI (c - 1 - k) := by
    apply Int32.toInt_inj.mp
    rw [eb, nI_toInt (by omega), nI_toInt (by omega)]
    omega
  rw [eB]
  obtain ⟨st, cf, cb, ch, sp, ct, nt, nx, nw0, ⟨gs, u46, g8, g9, g11, g12, g13, g14, g15, g16, g17, t53, t55, t56, t57, t58, t59, t60, t61, hct⟩, t52, hJ, h1, h2, h3⟩ := hRS e
  have hcf : ∀ j, j < xN (xE P 0) → cf j = xF (xE P 0) j ∧ cb j = xB (xE P 0) j := fun j hj => by
    have := h2 j hj
    rw [Nat.mul_zero, Nat.zero_add] at this
    exact this
  have hfX := og_f (og := xF (xE P 0)) hZ.1 (fun j _ => rfl)
  have loop : ∀ d b : Nat, b + d = c - 1 - k → ∀ m, m < xN (xE P 0) → itc (xF (xE P 0)) (nI s) b = nI m → PQ (j_SL L) (j_SV xs) j_EX mm_X12_step 47 [.ref 46, .int (nI s), .int (nI k), .int (nI (c - 1 - k)), .int (nI m), .int (nI b)] [] T n 0 0 (fun r S' n' => r = some (.int (epR (stQ P (nI s) (nI k))))) := by
    intro d
    induction d with
    | zero =>
      intro b hb m hm em
      have ebb : b = c - 1 - k := by omega
      subst ebb
      refine q_iload rfl rfl rfl ?_
      refine q_iload_n rfl rfl rfl ?_
      refine q_icge rfl rfl (fun _ => ?_) (fun h => absurd (Int32.le_refl _) h)
      refine q_aload_n rfl rfl rfl ?_
      refine q_getf rfl rfl (by omega) u46 g13 ?_
      refine q_iload rfl rfl rfl ?_
      refine q_iald rfl rfl (by omega) t57 (q_inN (by omega) (by decide)) (q_tn (z := xB (xE P 0) m) (by rw [nI_clamp (by omega)]; exact (hcf m hm).2) ?_)
      exact q_iret rfl rfl trivial (ep_r (st_fn hZ.1) (Or.inr ⟨y0, q, hq, Or.inr ⟨e, s, c, hs, rfl, hc, hL, Or.inr ⟨k, m, hk, rfl, hm, em, rfl⟩⟩⟩))
    | succ d ih =>
      intro b hb m hm em
      obtain ⟨m', m0', hm', em2⟩ := it_in (b := b) hN hs hfX hL (by omega)
      have mm := nI_inj (by omega) (by omega) (em.symm.trans em2)
      subst mm
      obtain ⟨i, hi, ei⟩ := hfX m m0' hm
      refine q_iload rfl rfl rfl ?_
      refine q_iload_n rfl rfl rfl ?_
      refine q_icge rfl rfl (fun h => absurd h (nI_ge (a := b) (b := c - 1 - k) (by omega) (by omega))) (fun _ => ?_)
      refine q_aload_n rfl rfl rfl ?_
      refine q_getf rfl rfl (by omega) u46 g12 ?_
      refine q_iload rfl rfl rfl ?_
      refine q_iald rfl rfl (by omega) t56 (q_inN (by omega) (by decide)) (q_tn (z := nI i) (by rw [nI_clamp (by omega)]; exact (hcf m hm).1.trans ei) ?_)
      refine q_ist4 rfl rfl rfl rfl ?_
      refine q_inc5 rfl rfl rfl rfl ?_
      refine q_goto rfl ?_
      rw [show nI b + 1 = nI (b + 1) from nI_add b 1]
      refine ih (b + 1) (by omega) i (by omega) ?_
      show xF (xE P 0) (itc (xF (xE P 0)) (nI s) b).toNatClampNeg = nI i
      rw [em, nI_clamp (by omega)]
      exact ei
  refine q_iload_n rfl rfl rfl ?_
  refine q_ist4 rfl rfl rfl rfl ?_
  refine q_iconst rfl rfl ?_
  refine q_ist5 rfl rfl rfl rfl ?_
  exact loop (c - 1 - k) 0 (by omega) s hs rfl
end JF
