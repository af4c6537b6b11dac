/-! what stands between the law's calls, loopsKnown with it -/
section OC9
variable {θ θ' : Th} {f f' : Nat → Int32} {S S' T : Nat → pm_E} {n : Nat} {P : PG}
def JAo (θ : Th) (S : Nat → pm_E) : Prop := JA θ S ∧ ∀ f : Nat → Int32, S 2 = .inl (0, 4, .inl f) → JLp (PGo θ f) S
def jal4 : List Nat := [0, 31, 1, 7, 8, 16, 2, 3, 4, 5, 6, 9, 10, 11, 12, 13, 14, 15, 17, 22, 23, 44, 45, 51, 55, 56, 57, 59, 60, 62, 63, 64]
theorem jao_fr (h : JAo θ S) (e : ∀ j, j ∈ jal4 → S' j = S j) : JAo θ S' := ⟨ja_fr h.1 (fun j hj => e j (List.mem_cons_of_mem _ (List.mem_cons_of_mem _ hj))), fun f k2 => jlp_fr (h.2 f ((e 2 (by decide)).symm.trans k2)) (e 0 (by decide)) (e 31 (by decide))⟩
theorem jao_gy (hG : GS θ S n) (hj : JAo θ S) : ∃ f : Nat → Int32, S 2 = .inl (0, 4, .inl f) ∧ GZ θ (PGo θ f) S n := by
  obtain ⟨f, k2, g⟩ := ja_gj hG hj.1
  exact ⟨f, k2, gz_ba g (hj.2 f k2)⟩
theorem jao_back {T1 T2 : Nat → pm_E} {f : Nat → Int32} {l l' : List Nat} (hn : 82 ≤ n) (hj : JAo θ S) (k2 : S 2 = .inl (0, 4, .inl f)) (g : GZ θ (PGo θ f) T2 n) (e1 : fr1 l S T1 n) (e2 : fr1 l' T1 T2 n) (q1 : [1, 2, 3, 4, 5, 6].all (fun k => !(l.contains k)) = true) (q2 : [1, 2, 3, 4, 5, 6].all (fun k => !(l'.contains k)) = true) : JAo θ T2 := by
  refine ⟨ja_back hn hj.1 k2 (gz_ab g).1 e1 e2 q1 q2, fun f9 k29 => ?_⟩
  have e : T2 2 = S 2 := (e2 2 (by omega) (by simpa using List.all_eq_true.mp q2 2 (by decide))).trans (e1 2 (by omega) (by simpa using List.all_eq_true.mp q1 2 (by decide)))
  rw [e, k2] at k29
  cases k29
  exact (gz_ab g).2
/-- a new program: loopsKnown is gone -/
theorem jlp_new {P : PG} {T1 T2 : Nat → pm_E} (hG2 : GS θ' T2 n) (z1 : zx44 T1) (e0 : T2 0 = T1 0) : JLp P T2 := by
  obtain ⟨fs, lr, g, x, a0, a11, a2, -, -, -, hx, h10, -⟩ := z1
  obtain ⟨bf, k31, -⟩ := gs_arr hG2 (k := 31) rfl
  exact ⟨fs, 0, bf, e0.trans a0, h10, k31, fun h => absurd rfl h⟩
theorem cdf_no4 {c l m : Nat} (h : cdf c l m S S') (e : S' c = S c) : False := by
  obtain ⟨f, g, a, b, X, hX, ne⟩ := h
  rw [e, a] at b
  cases b
  exact ne rfl
theorem ja_v51o {f : Nat → Int32} (h : JA θ S) (k2 : S 2 = .inl (0, 4, .inl f)) : VQ f ∧ WFP (PGo θ f) ∧ ∃ vl : Nat → Int32, S 51 = .inl (0, 4, .inl vl) ∧ ∀ p, p < 4 → vl p = nI (pV (PGo θ f) p) := by
  obtain ⟨-, -, hQ, f9, k29, hV, hW, -, hR⟩ := h
  rw [k2] at k29
  cases k29
  exact ⟨hV, hW, hR.1⟩
/-- behind code and uncode of both -/
theorem jao_step {T1 T2 : Nat → pm_E} {l l' : List Nat} (hG : GS θ S n) (hG1 : GS θ T1 n) (hG2 : GS θ' T2 n) (hJ : JAo θ S) (h2 : J2 θ' T1) (hA : JA θ' T2) (e1 : fr1 l S T1 n) (e2 : fr1 l' T1 T2 n) (q1 : l.contains 2 = false ∧ l.contains 54 = false) (q2 : l'.contains 0 = false ∧ l'.contains 2 = false ∧ l'.contains 51 = false) (z1 : ZQ 44 S T1) (z2 : ZQ 62 T1 T2) (hd : θ' = θ ∨ ∃ k, k < 3 ∧ θ'.1 k ≠ θ.1 k) : JAo θ' T2 := by
  have hn := gs_n hG
  refine ⟨hA, fun f k2 => ?_⟩
  have a2 : T2 2 = T1 2 := e2 2 (by omega) q2.2.1
  have b2 : T1 2 = S 2 := e1 2 (by omega) q1.1
  obtain ⟨hV, hW, hv⟩ := ja_v51o hA k2
  have hj2 := hJ.1.1
  rcases z1 with e | ⟨z, hdf⟩
  · rcases z2 with e9 | ⟨z', hdf'⟩
    · have et : θ' = θ := by
        rcases hd with h | ⟨k, hk, ne⟩
        · exact h
        · rw [e9] at hG1
          exact absurd (hp_inj hG2 hG1 hk) ne
      subst et
      rw [← e9, ← e]
      refine hJ.2 f ?_
      rw [e, e9]
      exact k2
    · exfalso
      rcases hdf' with ⟨-, h | h⟩ | ⟨h, -⟩
      · obtain ⟨mn, mn', k47, k47', X, hX, ne⟩ := h
        obtain ⟨r1, -, -, -, gs1, w47, -, -, -, -, m5, -⟩ := xm_get hG1
        obtain ⟨r2, -, -, -, gs2, w47', -, -, -, -, m5', -⟩ := xm_get hG2
        rw [k47] at w47
        cases w47
        rw [k47'] at w47'
        cases w47'
        obtain ⟨-, ln, c, d⟩ := hj2
        obtain ⟨-, ln', c', d'⟩ := h2
        rw [← e, c] at c'
        cases c'
        exact ne (by rw [m5' X hX, m5 X hX, ← d' X hX, d X hX])
      · exact cdf_no4 h (e2 51 (by omega) q2.2.2)
      · cases h
  · rcases z2 with e9 | ⟨z', hdf'⟩
    · exfalso
      rcases hdf with ⟨h, -⟩ | ⟨-, h | h⟩
      · cases h
      · obtain ⟨f3, g3, k3, k3', X, hX, ne⟩ := h
        obtain ⟨-, ln, c, d⟩ := hj2
        obtain ⟨-, ln', c', d'⟩ := h2
        rw [k3] at c
        cases c
        rw [k3'] at c'
        cases c'
        rw [e9] at hG1
        exact ne (by rw [d' X hX, d X hX, hp_inj hG2 hG1 hX])
      · exact cdf_no4 h b2
    · exact jlp_new hG2 (z.2.2 rfl) (e2 0 (by omega) q2.1)
/-- behind value of both -/
theorem jao_vl {T1 T2 : Nat → pm_E} {f f' g0 g' : Nat → Int32} (hG : GS θ S n) (hG2 : GS θ T2 n) (hJ : JAo θ S) (hA : JA θ T2) (e1 : fr1 [0, 2, 32, 42, 44] S T1 n) (e2 : fr1 [46, 51, 52, 54, 62, 74] T1 T2 n) (z1 : ZQ 44 S T1) (z2 : ZQ 62 T1 T2) (q1 : S 2 = .inl (0, 4, .inl f)) (q2 : T1 2 = .inl (0, 4, .inl f')) (q3 : T1 51 = .inl (0, 4, .inl g0)) (q4 : T2 51 = .inl (0, 4, .inl g')) : JAo θ T2 := by
  have hn := gs_n hG
  refine ⟨hA, fun f9 k2 => ?_⟩
  have a2 : T2 2 = T1 2 := e2 2 (by omega) rfl
  obtain ⟨hV, hW, hv⟩ := ja_v51o hA k2
  have ef : f9 = f' := by
    have h := k2.symm.trans (a2.trans q2)
    cases h
    rfl
  subst ef
  obtain ⟨fa, ga, r2, r51, hfg⟩ := ja_val hJ.1
  obtain ⟨fb, gb, s2, s51, hfg'⟩ := ja_val hA
  rw [q1] at r2
  cases r2
  rw [k2] at s2
  cases s2
  rw [q4] at s51
  cases s51
  have t51 : T1 51 = S 51 := e1 51 (by omega) rfl
  rw [t51, r51] at q3
  cases q3
  rcases z1 with e | ⟨z, hdf⟩
  · rcases z2 with e9 | ⟨z', hdf'⟩
    · have h9 := hJ.2 f q1
      rw [← e, q1] at q2
      cases q2
      rw [← e9, ← e]
      exact h9
    · exfalso
      rw [← e, q1] at q2
      cases q2
      rcases hdf' with ⟨-, h | h⟩ | ⟨h, -⟩
      · exact cdf_no4 h (e2 47 (by omega) rfl)
      · obtain ⟨u, w, b1, b2, X, hX, ne⟩ := h
        rw [t51, r51] at b1
        cases b1
        rw [q4] at b2
        cases b2
        exact ne (by rw [← hfg' X hX, hfg X hX])
      · cases h
  · rcases z2 with e9 | ⟨z', hdf'⟩
    · exfalso
      have u51 : T2 51 = S 51 := by rw [← e9]; exact t51
      rw [q4, r51] at u51
      cases u51
      rcases hdf with ⟨h, -⟩ | ⟨-, h | h⟩
      · cases h
      · exact cdf_no4 h (e1 3 (by omega) rfl)
      · obtain ⟨u, w, b1, b2, X, hX, ne⟩ := h
        rw [q1] at b1
        cases b1
        rw [q2] at b2
        cases b2
        exact ne (by rw [hfg' X hX, ← hfg X hX])
    · exact jlp_new hG2 (z.2.2 rfl) (e2 0 (by omega) rfl)
/-- behind puzzle of both -/
theorem jao_puz {T1 T2 : Nat → pm_E} {h z : Int32} (hG : GS θ S n) (hG2 : GS θ' T2 n) (hJ : JAo θ S) (hA : JA θ' T2) (e2 : fr1 [46, 47, 51, 52, 54, 62, 74] T1 T2 n) (u1 : ¬ inP h 1 3 → S = T1) (u2 : inP h 1 3 → zr 44 T1) (v1 : ¬ inP h 1 3 → T2 = T1) (v2 : inP h 1 3 → zr 62 T2) (hr : pzR θ h z θ') : JAo θ' T2 := by
  have hn := gs_n hG
  rcases hr with ⟨hi, -, rfl⟩ | ⟨hi, -, e9⟩
  · rw [v1 hi, ← u1 hi]
    exact hJ
  refine ⟨hA, fun f k2 => ?_⟩
  obtain ⟨hV, hW, hv⟩ := ja_v51o hA k2
  exact jlp_new hG2 ((u2 hi).2.2 rfl) (e2 0 (by omega) rfl)
end OC9
section OC8
variable {S : Nat → pm_E}
theorem jao_init (h : FW S) : JAo th0 S := ⟨ja_init h, fun f k2 => ⟨_, 0, _, FW_0 S h, rfl, FW_31 S h, fun h9 => absurd rfl h9⟩⟩
end OC8
