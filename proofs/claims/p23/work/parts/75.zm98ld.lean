/-! what stands between the law's calls, the learner with it -/
section LD
variable {θ θ' : Th} {f f' : Nat → Int32} {S S' T : Nat → pm_E} {n : Nat} {P : PG}
def JAl (θ : Th) (S : Nat → pm_E) : Prop := JA θ S ∧ ∀ P, JLn P S
def jal3 : List Nat := [42, 46, 74, 1, 7, 8, 16, 2, 3, 4, 5, 6, 9, 10, 11, 12, 13, 14, 15, 17, 22, 23, 44, 45, 51, 55, 56, 57, 59, 60, 62, 63, 64]
theorem jal_fr (h : JAl θ S) (e : ∀ j, j ∈ jal3 → S' j = S j) : JAl θ S' := ⟨ja_fr h.1 (fun j hj => e j (List.mem_cons_of_mem _ (List.mem_cons_of_mem _ (List.mem_cons_of_mem _ hj)))), fun P => jln_fr (h.2 P) (e 42 (by decide)) (e 46 (by decide)) (e 74 (by decide))⟩
theorem jal_gl (hG : GS θ S n) (hj : JAl θ S) : ∃ f : Nat → Int32, S 2 = .inl (0, 4, .inl f) ∧ GL θ (PGo θ f) S n := by
  obtain ⟨f, k2, g⟩ := ja_gj hG hj.1
  exact ⟨f, k2, gl_ba g (hj.2 _)⟩
theorem jal_back {T1 T2 : Nat → pm_E} {f : Nat → Int32} {l l' : List Nat} (hn : 82 ≤ n) (hj : JAl θ S) (k2 : S 2 = .inl (0, 4, .inl f)) (g : GL θ (PGo θ f) T2 n) (e1 : fr1 l S T1 n) (e2 : fr1 l' T1 T2 n) (q1 : [1, 2, 3, 4, 5, 6].all (fun k => !(l.contains k)) = true) (q2 : [1, 2, 3, 4, 5, 6].all (fun k => !(l'.contains k)) = true) : JAl θ T2 := ⟨ja_back hn hj.1 k2 (gl_ab g).1 e1 e2 q1 q2, fun P => (gl_ab g).2⟩
theorem cdf_nl {c l m : Nat} (h : cdf c l m S S') (e : S' c = S c) : False := by
  obtain ⟨f, g, a, b, X, hX, ne⟩ := h
  rw [e, a] at b
  cases b
  exact ne rfl
/-- behind code and uncode: nothing changed, or both are changed -/
theorem zq_step {T1 T2 : Nat → pm_E} {l l' : List Nat} (hG : GS θ S n) (hG1 : GS θ T1 n) (hG2 : GS θ' T2 n) (hj2 : J2 θ S) (h2 : J2 θ' T1) (e1 : fr1 l S T1 n) (e2 : fr1 l' T1 T2 n) (q1 : l.contains 2 = false) (q2 : l'.contains 51 = false) (z1 : ZQ 44 S T1) (z2 : ZQ 62 T1 T2) : (S = T1 ∧ T1 = T2) ∨ (zr 44 T1 ∧ zr 62 T2) := by
  have hn := gs_n hG
  rcases z1 with e | ⟨z, hdf⟩
  · rcases z2 with e9 | ⟨z', hdf'⟩
    · exact Or.inl ⟨e, e9⟩
    · exfalso
      rcases hdf' with ⟨-, h | h⟩ | ⟨h, -⟩
      · obtain ⟨mn, mn', k47, k47', X, hX, ne⟩ := h
        obtain ⟨r1, -, -, -, gs1, w47, -, -, -, -, m5, -⟩ := xm_get hG1
        obtain ⟨r2, -, -, -, gs2, w47', -, -, -, -, m5', -⟩ := xm_get hG2
        rw [k47] at w47
        cases w47
        rw [k47'] at w47'
        cases w47'
        obtain ⟨-, ln, c, d⟩ := hj2
        obtain ⟨-, ln', c', d'⟩ := h2
        rw [← e, c] at c'
        cases c'
        exact ne (by rw [m5' X hX, m5 X hX, ← d' X hX, d X hX])
      · exact cdf_nl h (e2 51 (by omega) q2)
      · cases h
  · rcases z2 with e9 | ⟨z', hdf'⟩
    · exfalso
      rcases hdf with ⟨h, -⟩ | ⟨-, h | h⟩
      · cases h
      · obtain ⟨f3, g3, k3, k3', X, hX, ne⟩ := h
        obtain ⟨-, ln, c, d⟩ := hj2
        obtain ⟨-, ln', c', d'⟩ := h2
        rw [k3] at c
        cases c
        rw [k3'] at c'
        cases c'
        rw [e9] at hG1
        exact ne (by rw [d' X hX, d X hX, hp_inj hG2 hG1 hX])
      · exact cdf_nl h (e1 2 (by omega) q1)
    · exact Or.inr ⟨z, z'⟩
theorem cntB_0 : ∀ m, cntB (fun _ => false) m = 0 := by
  intro m
  induction m with
  | zero => rfl
  | succ m ih =>
    show cntB (fun _ => false) m + 0 = 0
    rw [ih]
theorem e_bt_00 (j : Nat) : e_bt 0 j = false := by
  unfold e_bt
  exact BitVec.getLsbD_zero
theorem jln_0 {T1 T2 : Nat → pm_E} (z1 : zx44 T1) (z2 : zx62 T2) (e42 : T2 42 = T1 42) : JLn P T2 := by
  obtain ⟨-, lr, -, -, -, -, -, a42, l0, l1, -⟩ := z1
  obtain ⟨fs, tl, b46, f34, -, b74, htl⟩ := z2
  have ec : cntB (e_bt 0) 64 = 0 := (cntB_cg (fun i _ => e_bt_00 i)).trans (cntB_0 64)
  exact ⟨lr, fs, 0, 0, tl, e42.trans a42, l0, l1, b46, by rw [ec]; exact f34, b74, fun k _ => e_bt_00 k, fun k hk => Or.inl ⟨htl k hk, e_bt_00 k⟩⟩
theorem jal_step {T1 T2 : Nat → pm_E} {l l' : List Nat} (hG : GS θ S n) (hG1 : GS θ T1 n) (hG2 : GS θ' T2 n) (hJ : JAl θ S) (h2 : J2 θ' T1) (hA : JA θ' T2) (e1 : fr1 l S T1 n) (e2 : fr1 l' T1 T2 n) (q1 : l.contains 2 = false) (q2 : l'.contains 51 = false ∧ l'.contains 42 = false) (z1 : ZQ 44 S T1) (z2 : ZQ 62 T1 T2) : JAl θ' T2 := by
  have hn := gs_n hG
  refine ⟨hA, fun P => ?_⟩
  rcases zq_step hG hG1 hG2 hJ.1.1 h2 e1 e2 q1 q2.1 z1 z2 with ⟨e, e9⟩ | ⟨z, z'⟩
  · rw [← e9, ← e]
    exact hJ.2 P
  · exact jln_0 (z.2.2 rfl) (z'.2.1 rfl) (e2 42 (by omega) q2.2)
theorem jal_vl {T1 T2 : Nat → pm_E} {f f' g0 g' : Nat → Int32} (hG : GS θ S n) (hJ : JAl θ S) (hA : JA θ T2) (e1 : fr1 [0, 2, 32, 42, 44] S T1 n) (e2 : fr1 [46, 51, 52, 54, 62, 74] T1 T2 n) (z1 : ZQ 44 S T1) (z2 : ZQ 62 T1 T2) (q1 : S 2 = .inl (0, 4, .inl f)) (q2 : T1 2 = .inl (0, 4, .inl f')) (q3 : T1 51 = .inl (0, 4, .inl g0)) (q4 : T2 51 = .inl (0, 4, .inl g')) : JAl θ T2 := by
  have hn := gs_n hG
  refine ⟨hA, fun P => ?_⟩
  have k2 : T2 2 = .inl (0, 4, .inl f') := (e2 2 (by omega) rfl).trans q2
  obtain ⟨fa, ga, r2, r51, hfg⟩ := ja_val hJ.1
  obtain ⟨fb, gb, s2, s51, hfg'⟩ := ja_val hA
  rw [q1] at r2
  cases r2
  rw [k2] at s2
  cases s2
  rw [q4] at s51
  cases s51
  have t51 : T1 51 = S 51 := e1 51 (by omega) rfl
  rw [t51, r51] at q3
  cases q3
  rcases z1 with e | ⟨z, hdf⟩
  · rcases z2 with e9 | ⟨z', hdf'⟩
    · rw [← e9, ← e]
      exact hJ.2 P
    · exfalso
      rw [← e, q1] at q2
      cases q2
      rcases hdf' with ⟨-, h | h⟩ | ⟨h, -⟩
      · exact cdf_nl h (e2 47 (by omega) rfl)
      · obtain ⟨u, w, b1, b2, X, hX, ne⟩ := h
        rw [t51, r51] at b1
        cases b1
        rw [q4] at b2
        cases b2
        exact ne (by rw [← hfg' X hX, hfg X hX])
      · cases h
  · rcases z2 with e9 | ⟨z', hdf'⟩
    · exfalso
      have u51 : T2 51 = S 51 := by rw [← e9]; exact t51
      rw [q4, r51] at u51
      cases u51
      rcases hdf with ⟨h, -⟩ | ⟨-, h | h⟩
      · cases h
      · exact cdf_nl h (e1 3 (by omega) rfl)
      · obtain ⟨u, w, b1, b2, X, hX, ne⟩ := h
        rw [q1] at b1
        cases b1
        rw [q2] at b2
        cases b2
        exact ne (by rw [hfg' X hX, ← hfg X hX])
    · exact jln_0 (z.2.2 rfl) (z'.2.1 rfl) (e2 42 (by omega) rfl)
theorem jal_puz {T1 T2 : Nat → pm_E} {h z : Int32} (hG : GS θ S n) (hJ : JAl θ S) (hA : JA θ' T2) (e2 : fr1 [46, 47, 51, 52, 54, 62, 74] T1 T2 n) (u1 : ¬ inP h 1 3 → S = T1) (u2 : inP h 1 3 → zr 44 T1) (v1 : ¬ inP h 1 3 → T2 = T1) (v2 : inP h 1 3 → zr 62 T2) (hr : pzR θ h z θ') : JAl θ' T2 := by
  have hn := gs_n hG
  refine ⟨hA, fun P => ?_⟩
  rcases hr with ⟨hi, -, -⟩ | ⟨hi, -, -⟩
  · rw [v1 hi, ← u1 hi]
    exact hJ.2 P
  · exact jln_0 ((u2 hi).2.2 rfl) ((v2 hi).2.1 rfl) (e2 42 (by omega) rfl)
theorem jal_init (h : FW S) : JAl th0 S := by
  refine ⟨ja_init h, fun P => ?_⟩
  have ec : cntB (e_bt 0) 64 = 0 := (cntB_cg (fun i _ => e_bt_00 i)).trans (cntB_0 64)
  exact ⟨_, _, 0, 0, _, FW_42 S h, rfl, rfl, FW_46 S h, by rw [ec]; rfl, FW_74 S h, fun k _ => e_bt_00 k, fun k hk => Or.inl ⟨if_pos hk, e_bt_00 k⟩⟩
end LD
