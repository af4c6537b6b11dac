/-! what stands between the law's calls, the run with it -/
section KC9
variable {θ θ' : Th} {f f' : Nat → Int32} {S S' T : Nat → pm_E} {n : Nat} {P : PG}
def JAr (θ : Th) (S : Nat → pm_E) : Prop := JA θ S ∧ ∀ f : Nat → Int32, S 2 = .inl (0, 4, .inl f) → JRun (PGo θ f) S
def jal2 : List Nat := [0, 54, 1, 7, 8, 16, 2, 3, 4, 5, 6, 9, 10, 11, 12, 13, 14, 15, 17, 22, 23, 44, 45, 51, 55, 56, 57, 59, 60, 62, 63, 64]
theorem jar_fr (h : JAr θ S) (e : ∀ j, j ∈ jal2 → S' j = S j) : JAr θ S' := ⟨ja_fr h.1 (fun j hj => e j (List.mem_cons_of_mem _ (List.mem_cons_of_mem _ hj))), fun f k2 => jrun_fr (h.2 f ((e 2 (by decide)).symm.trans k2)) (e 0 (by decide)) (e 54 (by decide))⟩
theorem jar_gy (hG : GS θ S n) (hj : JAr θ S) : ∃ f : Nat → Int32, S 2 = .inl (0, 4, .inl f) ∧ GY θ (PGo θ f) S n := by
  obtain ⟨f, k2, g⟩ := ja_gj hG hj.1
  exact ⟨f, k2, gy_ba g (hj.2 f k2)⟩
theorem jar_back {T1 T2 : Nat → pm_E} {f : Nat → Int32} {l l' : List Nat} (hn : 82 ≤ n) (hj : JAr θ S) (k2 : S 2 = .inl (0, 4, .inl f)) (g : GY θ (PGo θ f) T2 n) (e1 : fr1 l S T1 n) (e2 : fr1 l' T1 T2 n) (q1 : [1, 2, 3, 4, 5, 6].all (fun k => !(l.contains k)) = true) (q2 : [1, 2, 3, 4, 5, 6].all (fun k => !(l'.contains k)) = true) : JAr θ T2 := by
  refine ⟨ja_back hn hj.1 k2 (gy_ab g).1 e1 e2 q1 q2, fun f9 k29 => ?_⟩
  have e : T2 2 = S 2 := (e2 2 (by omega) (by simpa using List.all_eq_true.mp q2 2 (by decide))).trans (e1 2 (by omega) (by simpa using List.all_eq_true.mp q1 2 (by decide)))
  rw [e, k2] at k29
  cases k29
  exact (gy_ab g).2
/-- both at the first state -/
theorem jrun_first {T1 T2 : Nat → pm_E} {f : Nat → Int32} (hG2 : GS θ' T2 n) (hW : WFP (PGo θ' f)) (k2 : T2 2 = .inl (0, 4, .inl f)) (hV : VQ f) (z1 : zx44 T1) (e0 : T2 0 = T1 0) (e2 : T2 2 = T1 2) (z2 : zx62 T2) (hv : ∃ vl : Nat → Int32, T2 51 = .inl (0, 4, .inl vl) ∧ ∀ p, p < 4 → vl p = nI (pV (PGo θ' f) p)) : JRun (PGo θ' f) T2 := by
  obtain ⟨fs, lr, g, x, a0, a11, a2, -, -, -, hx, -⟩ := z1
  have eg : f = g := by
    have h := k2.symm.trans (e2.trans a2)
    cases h
    rfl
  subst eg
  have hx' := hx hV
  obtain ⟨gs, tl, b46, -, ⟨hd, mn, vl, rn, g1, b47, b51, b54, hr⟩, -⟩ := z2
  obtain ⟨vl', c51, hvl⟩ := hv
  have ev : vl = vl' := by
    have h := b51.symm.trans c51
    cases h
    rfl
  subst ev
  obtain ⟨mn', fk, fa, fn, fs', q47, q48, q49, q50, q46, m5, m6, f1, hdd, hm, hf⟩ := xm_get hG2
  have e46 := (Prod.mk.inj (Sum.inr.inj (b46.symm.trans q46))).2
  subst e46
  have ehd : hd = θ'.2.2.2.2 := by
    have h := g1.symm.trans f1
    cases h
    rfl
  have emn : mn = mn' := by
    have h := b47.symm.trans q47
    cases h
    rfl
  subst emn
  have hH : hd.toInt.toNat = pH (PGo θ' f) := by rw [ehd]; rfl
  have h3 := hW.2.1
  have eD : e_D x = nrm (firV f) := is_nrm hx'
  have eF : nrm (firV f) = nrm (firD (PGo θ' f)) := by
    funext j
    unfold nrm
    by_cases hj : j < 21
    · rw [if_pos hj, if_pos hj]
      unfold firV firD
      by_cases c : 12 ≤ j ∧ j < 16
      · rw [if_pos c, if_pos c]
        show (f (j - 12)).toInt.toNat = vf f (j - 12)
        unfold vf
        rw [if_pos (by omega)]
      · rw [if_neg c, if_neg c]
    · rw [if_neg hj, if_neg hj]
  refine ⟨fs, x, rn, e0.trans a0, a11, ?_, b54, fun i hi => ?_⟩
  · rw [eD, eF]
    exact wfd_nrm h3 (wf_fir hW)
  rw [hr i hi, eD, eF]
  have z : ∀ j, j < 12 → nrm (firD (PGo θ' f)) j = 0 := fun j hj => by
    unfold nrm firD
    rw [if_pos (by omega), if_neg (by omega)]
  unfold frw
  rw [hH]
  by_cases c : i < 4 * pH (PGo θ' f) ∧ i % 4 = 0
  · rw [if_pos c]
    obtain ⟨y, hy⟩ : ∃ y, i = 4 * y := ⟨i / 4, by omega⟩
    subst hy
    have hyH : y < pH (PGo θ' f) := by omega
    rw [ra_0 hyH, show 4 * y / 4 = y by omega]
    have hl : mn y = nI (pL (PGo θ' f) y) := by
      rw [m5 y (by omega)]
      have := hm y (by omega)
      exact nI_ofI (k := (θ'.1 y).toInt.toNat) (by omega) (by omega)
    have hl8 := hW.2.2.1 y hyH
    unfold rp
    rw [z (4 * y) (by omega)]
    by_cases c0 : pL (PGo θ' f) y = 0
    · have e0' : mn y = 0 := by
        rw [hl, c0]
        rfl
      rw [if_pos e0', c0, if_neg (by decide), if_neg (by decide)]
      rfl
    · have hne : ¬ mn y = 0 := fun e => c0 ((m_eq (b := 0) (by omega) (by decide)).mp (hl.symm.trans e))
      rw [if_neg hne, if_pos (by omega)]
      rfl
  · rw [if_neg c]
    have er : ra (PGo θ' f) (nrm (firD (PGo θ' f))) i = nI (nrm (firD (PGo θ' f)) i) := by
      unfold ra
      rw [if_neg c]
    rw [er]
    by_cases c2 : 12 ≤ i ∧ i < 16
    · rw [if_pos c2, hvl (i - 12) (by omega)]
      unfold nrm firD
      rw [if_pos (by omega), if_pos c2]
    · rw [if_neg c2]
      unfold nrm firD
      rw [if_pos (by omega), if_neg c2]
      rfl
theorem cdf_no {c l m : Nat} (h : cdf c l m S S') (e : S' c = S c) : False := by
  obtain ⟨f, g, a, b, X, hX, ne⟩ := h
  rw [e, a] at b
  cases b
  exact ne rfl
theorem ja_v51 {f : Nat → Int32} (h : JA θ S) (k2 : S 2 = .inl (0, 4, .inl f)) : VQ f ∧ WFP (PGo θ f) ∧ ∃ vl : Nat → Int32, S 51 = .inl (0, 4, .inl vl) ∧ ∀ p, p < 4 → vl p = nI (pV (PGo θ f) p) := by
  obtain ⟨-, -, hQ, f9, k29, hV, hW, -, hR⟩ := h
  rw [k2] at k29
  cases k29
  exact ⟨hV, hW, hR.1⟩
/-- behind code and uncode of both -/
theorem jar_step {T1 T2 : Nat → pm_E} {l l' : List Nat} (hG : GS θ S n) (hG1 : GS θ T1 n) (hG2 : GS θ' T2 n) (hJ : JAr θ S) (h2 : J2 θ' T1) (hA : JA θ' T2) (e1 : fr1 l S T1 n) (e2 : fr1 l' T1 T2 n) (q1 : l.contains 2 = false ∧ l.contains 54 = false) (q2 : l'.contains 0 = false ∧ l'.contains 2 = false ∧ l'.contains 51 = false) (z1 : ZQ 44 S T1) (z2 : ZQ 62 T1 T2) (hd : θ' = θ ∨ ∃ k, k < 3 ∧ θ'.1 k ≠ θ.1 k) : JAr θ' T2 := by
  have hn := gs_n hG
  refine ⟨hA, fun f k2 => ?_⟩
  have a2 : T2 2 = T1 2 := e2 2 (by omega) q2.2.1
  have b2 : T1 2 = S 2 := e1 2 (by omega) q1.1
  obtain ⟨hV, hW, hv⟩ := ja_v51 hA k2
  have hj2 := hJ.1.1
  rcases z1 with e | ⟨z, hdf⟩
  · rcases z2 with e9 | ⟨z', hdf'⟩
    · have et : θ' = θ := by
        rcases hd with h | ⟨k, hk, ne⟩
        · exact h
        · rw [e9] at hG1
          exact absurd (hp_inj hG2 hG1 hk) ne
      subst et
      rw [← e9, ← e]
      refine hJ.2 f ?_
      rw [e, e9]
      exact k2
    · exfalso
      rcases hdf' with ⟨-, h | h⟩ | ⟨h, -⟩
      · obtain ⟨mn, mn', k47, k47', X, hX, ne⟩ := h
        obtain ⟨r1, -, -, -, gs1, w47, -, -, -, -, m5, -⟩ := xm_get hG1
        obtain ⟨r2, -, -, -, gs2, w47', -, -, -, -, m5', -⟩ := xm_get hG2
        rw [k47] at w47
        cases w47
        rw [k47'] at w47'
        cases w47'
        obtain ⟨-, ln, c, d⟩ := hj2
        obtain ⟨-, ln', c', d'⟩ := h2
        rw [← e, c] at c'
        cases c'
        exact ne (by rw [m5' X hX, m5 X hX, ← d' X hX, d X hX])
      · exact cdf_no h (e2 51 (by omega) q2.2.2)
      · cases h
  · rcases z2 with e9 | ⟨z', hdf'⟩
    · exfalso
      rcases hdf with ⟨h, -⟩ | ⟨-, h | h⟩
      · cases h
      · obtain ⟨f3, g3, k3, k3', X, hX, ne⟩ := h
        obtain ⟨-, ln, c, d⟩ := hj2
        obtain ⟨-, ln', c', d'⟩ := h2
        rw [k3] at c
        cases c
        rw [k3'] at c'
        cases c'
        rw [e9] at hG1
        exact ne (by rw [d' X hX, d X hX, hp_inj hG2 hG1 hX])
      · exact cdf_no h b2
    · exact jrun_first hG2 hW k2 hV (z.2.2 rfl) (e2 0 (by omega) q2.1) a2 (z'.2.1 rfl) hv
/-- behind value of both -/
theorem jar_vl {T1 T2 : Nat → pm_E} {f f' g0 g' : Nat → Int32} (hG : GS θ S n) (hG2 : GS θ T2 n) (hJ : JAr θ S) (hA : JA θ T2) (e1 : fr1 [0, 2, 32, 42, 44] S T1 n) (e2 : fr1 [46, 51, 52, 54, 62, 74] T1 T2 n) (z1 : ZQ 44 S T1) (z2 : ZQ 62 T1 T2) (q1 : S 2 = .inl (0, 4, .inl f)) (q2 : T1 2 = .inl (0, 4, .inl f')) (q3 : T1 51 = .inl (0, 4, .inl g0)) (q4 : T2 51 = .inl (0, 4, .inl g')) : JAr θ T2 := by
  have hn := gs_n hG
  refine ⟨hA, fun f9 k2 => ?_⟩
  have a2 : T2 2 = T1 2 := e2 2 (by omega) rfl
  obtain ⟨hV, hW, hv⟩ := ja_v51 hA k2
  have ef : f9 = f' := by
    have h := k2.symm.trans (a2.trans q2)
    cases h
    rfl
  subst ef
  obtain ⟨fa, ga, r2, r51, hfg⟩ := ja_val hJ.1
  obtain ⟨fb, gb, s2, s51, hfg'⟩ := ja_val hA
  rw [q1] at r2
  cases r2
  rw [k2] at s2
  cases s2
  rw [q4] at s51
  cases s51
  have t51 : T1 51 = S 51 := e1 51 (by omega) rfl
  rw [t51, r51] at q3
  cases q3
  rcases z1 with e | ⟨z, hdf⟩
  · rcases z2 with e9 | ⟨z', hdf'⟩
    · have h9 := hJ.2 f q1
      rw [← e, q1] at q2
      cases q2
      rw [← e9, ← e]
      exact h9
    · exfalso
      rw [← e, q1] at q2
      cases q2
      rcases hdf' with ⟨-, h | h⟩ | ⟨h, -⟩
      · exact cdf_no h (e2 47 (by omega) rfl)
      · obtain ⟨u, w, b1, b2, X, hX, ne⟩ := h
        rw [t51, r51] at b1
        cases b1
        rw [q4] at b2
        cases b2
        exact ne (by rw [← hfg' X hX, hfg X hX])
      · cases h
  · rcases z2 with e9 | ⟨z', hdf'⟩
    · exfalso
      have u51 : T2 51 = S 51 := by rw [← e9]; exact t51
      rw [q4, r51] at u51
      cases u51
      rcases hdf with ⟨h, -⟩ | ⟨-, h | h⟩
      · cases h
      · exact cdf_no h (e1 3 (by omega) rfl)
      · obtain ⟨u, w, b1, b2, X, hX, ne⟩ := h
        rw [q1] at b1
        cases b1
        rw [q2] at b2
        cases b2
        exact ne (by rw [hfg' X hX, ← hfg X hX])
    · exact jrun_first hG2 hW k2 hV (z.2.2 rfl) (e2 0 (by omega) rfl) a2 (z'.2.1 rfl) hv
/-- behind puzzle of both -/
theorem jar_puz {T1 T2 : Nat → pm_E} {h z : Int32} (hG : GS θ S n) (hG2 : GS θ' T2 n) (hJ : JAr θ S) (hA : JA θ' T2) (e2 : fr1 [46, 47, 51, 52, 54, 62, 74] T1 T2 n) (u1 : ¬ inP h 1 3 → S = T1) (u2 : inP h 1 3 → zr 44 T1) (v1 : ¬ inP h 1 3 → T2 = T1) (v2 : inP h 1 3 → zr 62 T2) (hr : pzR θ h z θ') : JAr θ' T2 := by
  have hn := gs_n hG
  rcases hr with ⟨hi, -, rfl⟩ | ⟨hi, -, e9⟩
  · rw [v1 hi, ← u1 hi]
    exact hJ
  refine ⟨hA, fun f k2 => ?_⟩
  obtain ⟨hV, hW, hv⟩ := ja_v51 hA k2
  exact jrun_first hG2 hW k2 hV ((u2 hi).2.2 rfl) (e2 0 (by omega) rfl) (e2 2 (by omega) rfl) ((v2 hi).2.1 rfl) hv
end KC9
section KC8
variable {S : Nat → pm_E}
theorem jar_init (h : FW S) : JAr th0 S := by
  refine ⟨ja_init h, fun f k2 => ?_⟩
  obtain ⟨hV, hW, hv⟩ := ja_v51 (ja_init h) k2
  have ef : f = fun _ => 0 := by
    have h9 := k2.symm.trans (FW_2 S h)
    cases h9
    rfl
  have z : ∀ j : Fin 21, e_D 0 j.val = 0 := by decide +kernel
  refine jrun_first (T1 := S) (gs_init h) hW k2 hV ⟨_, _, f, 0, FW_0 S h, rfl, k2, FW_42 S h, rfl, rfl, fun _ j hj => ?_, rfl, _, FW_32 S h, rfl⟩ rfl rfl ⟨_, _, FW_46 S h, rfl, ⟨1, _, _, _, rfl, FW_47 S h, FW_51 S h, FW_54 S h, fun k hk => ?_⟩, FW_74 S h, fun k hk => if_pos hk⟩ hv
  · rw [z ⟨j, hj⟩, ef]
    unfold firV
    split <;> rfl
  · have t : ∀ k : Fin 20, fFirst k.val = frw 1 (fun _ => 0) (fun _ => 0) k.val := by decide +kernel
    exact t ⟨k, hk⟩
end KC8
