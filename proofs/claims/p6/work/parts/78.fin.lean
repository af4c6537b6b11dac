/-! p6: the cases by hand, the claim on the pure machine -/
section WZ
variable {Ls : Nat} {xs : Nat → Int32} {K : q_K} {S S' : Nat → pm_E} {n : Nat} {θ : Th}
theorem j2_fr {l : List Nat} (h : J2 θ S) (e : fr1 l S S' n) (hn : 82 ≤ n) (hl : [1, 3].all (fun k => !(l.contains k)) = true) : J2 θ S' := by
  obtain ⟨⟨fs, a, b⟩, ln, c, d⟩ := h
  have f : ∀ k, k ∈ [1, 3] → l.contains k = false := fun k hk => by simpa using List.all_eq_true.mp hl k hk
  exact ⟨⟨fs, (e 1 (by omega) (f 1 (by simp))).trans a, b⟩, ln, (e 3 (by omega) (f 3 (by simp))).trans c, d⟩
theorem jk_fr {l : List Nat} (h : JK θ S) (e : fr1 l S S' n) (hn : 82 ≤ n) (hl : [4, 5, 6].all (fun k => !(l.contains k)) = true) : JK θ S' := by
  have f : ∀ k, k ∈ [4, 5, 6] → l.contains k = false := fun k hk => by simpa using List.all_eq_true.mp hl k hk
  exact jk_same h (e 4 (by omega) (f 4 (by simp))) (e 5 (by omega) (f 5 (by simp))) (e 6 (by omega) (f 6 (by simp)))
theorem jk_init (h : FW S) : JK th0 S := by
  refine ⟨_, _, _, FW_4 S h, FW_5 S h, FW_6 S h, fun X i _ _ hl => ?_⟩
  exact absurd hl (by show ¬ (i : Int) < (0 : Int32).toInt; have e : (0 : Int32).toInt = 0 := rfl; omega)
theorem c_td2 {x i w : Int32} {L : Nat} (hG : GS θ S n) (hj : J2 θ S) (hk : JK θ S) : PM (j_SL L) (j_SV xs) j_EX mm_X11_told [.ref 0, .int x, .int i, .int w] S n (fun r S' n' => n = n' ∧ GS θ S' n ∧ fr1 [] S S' n ∧ ∃ z : Int32, r = some (.int z) ∧ tdR θ x i w z) := pm_weak (c_td hG hj hk) (fun r S9 n9 h => ⟨h.2.1, by rw [← h.1]; exact hG, by rw [← h.1]; exact fr1_rf, h.2.2⟩)
theorem l_rtd2 {x i w : Int32} {L : Nat} (hG : GS θ S n) : PM (j_SL L) (j_SV xs) j_EX mm_X12_told [.ref 46, .int x, .int i, .int w] S n (fun r S' n' => n = n' ∧ GS θ S' n ∧ fr1 [] S S' n ∧ ∃ z : Int32, r = some (.int z) ∧ tdR θ x i w z) := pm_weak (l_rtd hG) (fun r S9 n9 h => ⟨h.2.1, by rw [← h.1]; exact hG, by rw [← h.1]; exact fr1_rf, h.2.2⟩)
set_option maxHeartbeats 4000000 in
theorem k_0 (hL : Ls < 2 ^ 31) : OKJ (fun θ S => J2 θ S ∧ JK θ S) Ls xs K 172 := by
  intro θ S n c s p a5 a6 a7 hG hj hp hc hs hk
  have hn := gs_n hG
  obtain ⟨fs, k0, -, -, -⟩ := gs_0 hG
  refine q_aload_n rfl rfl rfl ?_
  refine q_aload_nF rfl rfl rfl ?_
  refine q_iload rfl rfl rfl ?_
  refine q_iconst rfl rfl ?_
  refine q_iadd rfl rfl (q_tn (z := nI (p + 1)) (nI_add p 1) ?_)
  refine q_ialdF rfl rfl (sc_i hp hL (by decide)) (q_tn (sc_v hp hL (by decide)) ?_)
  refine q_cV rfl rfl (Or.inl rfl) rfl rfl rfl rfl (by omega) k0 trivial rfl (c2 := c) (s2 := s) rfl rfl rfl rfl (c_pz hG hj.1) ?_
  rintro r T1 _ ⟨rfl, hG1, e1, u1, u2, z, rfl, hz⟩
  show PQ (j_SL Ls) (j_SV xs) j_EX mm_L_law 182 [.float 5, .ref 0, .ref 46, .ref 81, .int (nI p), a5, a6, a7] [.int z] T1 n c s K
  have hn1 := gs_n hG1
  obtain ⟨ob, hob, -⟩ := gs_obj hG1 (k := 46) rfl
  refine q_pop rfl rfl ?_
  refine q_aload_n rfl rfl rfl ?_
  refine q_aload_nF rfl rfl rfl ?_
  refine q_iload rfl rfl rfl ?_
  refine q_iconst rfl rfl ?_
  refine q_iadd rfl rfl (q_tn (z := nI (p + 1)) (nI_add p 1) ?_)
  refine q_ialdF rfl rfl (sc_i hp hL (by decide)) (q_tn (sc_v hp hL (by decide)) ?_)
  refine q_cV rfl rfl (Or.inl rfl) rfl rfl rfl rfl (by omega) hob trivial rfl (c2 := c) (s2 := s) rfl rfl rfl rfl (l_rpuz hG1) ?_
  rintro r T2 m9 ⟨en, e2, v1, v2, z', θ', rfl, hG2, hr⟩
  subst m9
  show PQ (j_SL Ls) (j_SV xs) j_EX mm_L_law 193 [.float 5, .ref 0, .ref 46, .ref 81, .int (nI p), a5, a6, a7] [.int z'] T2 n c s K
  refine q_pop rfl rfl ?_
  refine q_goto rfl ?_
  exact hk θ' T2 n c s a5 a6 a7 hG2 (⟨j2_fr (hz z' θ' hr).2.1 e2 hn rfl, jk_fr ((hz z' θ' hr).2.2 hj.2) e2 hn rfl⟩) (by omega) (by omega)
set_option maxHeartbeats 4000000 in
theorem k_1 (hL : Ls < 2 ^ 31) : OKJ (fun θ S => J2 θ S ∧ JK θ S) Ls xs K 197 := by
  intro θ S n c s p a5 a6 a7 hG hj hp hc hs hk
  have hn := gs_n hG
  obtain ⟨fs, k0, -, -, -⟩ := gs_0 hG
  refine q_aload_n rfl rfl rfl ?_
  refine q_aload_nF rfl rfl rfl ?_
  refine q_iload rfl rfl rfl ?_
  refine q_iconst rfl rfl ?_
  refine q_iadd rfl rfl (q_tn (z := nI (p + 1)) (nI_add p 1) ?_)
  refine q_ialdF rfl rfl (sc_i hp hL (by decide)) (q_tn (sc_v hp hL (by decide)) ?_)
  refine q_aload_nF rfl rfl rfl ?_
  refine q_iload rfl rfl rfl ?_
  refine q_iconst rfl rfl ?_
  refine q_iadd rfl rfl (q_tn (z := nI (p + 2)) (nI_add p 2) ?_)
  refine q_ialdF rfl rfl (sc_i hp hL (by decide)) (q_tn (sc_v hp hL (by decide)) ?_)
  refine q_aload_nF rfl rfl rfl ?_
  refine q_iload rfl rfl rfl ?_
  refine q_iconst rfl rfl ?_
  refine q_iadd rfl rfl (q_tn (z := nI (p + 3)) (nI_add p 3) ?_)
  refine q_ialdF rfl rfl (sc_i hp hL (by decide)) (q_tn (sc_v hp hL (by decide)) ?_)
  refine q_aload_nF rfl rfl rfl ?_
  refine q_iload rfl rfl rfl ?_
  refine q_iconst rfl rfl ?_
  refine q_iadd rfl rfl (q_tn (z := nI (p + 4)) (nI_add p 4) ?_)
  refine q_ialdF rfl rfl (sc_i hp hL (by decide)) (q_tn (sc_v hp hL (by decide)) ?_)
  refine q_cV rfl rfl (Or.inl rfl) rfl rfl rfl rfl (by omega) k0 trivial rfl (c2 := c) (s2 := s) rfl rfl rfl rfl (c_cd hG hj.1) ?_
  rintro r T1 _ ⟨rfl, hG1, e1, z, rfl, hz⟩
  show PQ (j_SL Ls) (j_SV xs) j_EX mm_L_law 225 [.float 5, .ref 0, .ref 46, .ref 81, .int (nI p), a5, a6, a7] [.int z] T1 n c s K
  have hn1 := gs_n hG1
  obtain ⟨ob, hob, -⟩ := gs_obj hG1 (k := 46) rfl
  refine q_pop rfl rfl ?_
  refine q_aload_n rfl rfl rfl ?_
  refine q_aload_nF rfl rfl rfl ?_
  refine q_iload rfl rfl rfl ?_
  refine q_iconst rfl rfl ?_
  refine q_iadd rfl rfl (q_tn (z := nI (p + 1)) (nI_add p 1) ?_)
  refine q_ialdF rfl rfl (sc_i hp hL (by decide)) (q_tn (sc_v hp hL (by decide)) ?_)
  refine q_aload_nF rfl rfl rfl ?_
  refine q_iload rfl rfl rfl ?_
  refine q_iconst rfl rfl ?_
  refine q_iadd rfl rfl (q_tn (z := nI (p + 2)) (nI_add p 2) ?_)
  refine q_ialdF rfl rfl (sc_i hp hL (by decide)) (q_tn (sc_v hp hL (by decide)) ?_)
  refine q_aload_nF rfl rfl rfl ?_
  refine q_iload rfl rfl rfl ?_
  refine q_iconst rfl rfl ?_
  refine q_iadd rfl rfl (q_tn (z := nI (p + 3)) (nI_add p 3) ?_)
  refine q_ialdF rfl rfl (sc_i hp hL (by decide)) (q_tn (sc_v hp hL (by decide)) ?_)
  refine q_aload_nF rfl rfl rfl ?_
  refine q_iload rfl rfl rfl ?_
  refine q_iconst rfl rfl ?_
  refine q_iadd rfl rfl (q_tn (z := nI (p + 4)) (nI_add p 4) ?_)
  refine q_ialdF rfl rfl (sc_i hp hL (by decide)) (q_tn (sc_v hp hL (by decide)) ?_)
  refine q_cV rfl rfl (Or.inl rfl) rfl rfl rfl rfl (by omega) hob trivial rfl (c2 := c) (s2 := s) rfl rfl rfl rfl (l_rcode hG1) ?_
  rintro r T2 m9 ⟨en, e2, z', θ', rfl, hG2, hr⟩
  subst m9
  show PQ (j_SL Ls) (j_SV xs) j_EX mm_L_law 254 [.float 5, .ref 0, .ref 46, .ref 81, .int (nI p), a5, a6, a7] [.int z'] T2 n c s K
  refine q_pop rfl rfl ?_
  refine q_goto rfl ?_
  exact hk θ' T2 n c s a5 a6 a7 hG2 (⟨j2_fr (hz z' θ' hr).2.1 e2 hn rfl, jk_fr ((hz z' θ' hr).2.2 hj.2) e2 hn rfl⟩) (by omega) (by omega)
set_option maxHeartbeats 4000000 in
theorem k_2 (hL : Ls < 2 ^ 31) : OKJ (fun θ S => J2 θ S ∧ JK θ S) Ls xs K 258 := by
  intro θ S n c s p a5 a6 a7 hG hj hp hc hs hk
  have hn := gs_n hG
  obtain ⟨fs, k0, -, -, -⟩ := gs_0 hG
  refine q_aload_n rfl rfl rfl ?_
  refine q_aload_nF rfl rfl rfl ?_
  refine q_iload rfl rfl rfl ?_
  refine q_iconst rfl rfl ?_
  refine q_iadd rfl rfl (q_tn (z := nI (p + 1)) (nI_add p 1) ?_)
  refine q_ialdF rfl rfl (sc_i hp hL (by decide)) (q_tn (sc_v hp hL (by decide)) ?_)
  refine q_cV rfl rfl (Or.inl rfl) rfl rfl rfl rfl (by omega) k0 trivial rfl (c2 := c) (s2 := s) rfl rfl rfl rfl (c_un hG hj.1) ?_
  rintro r T1 _ ⟨rfl, hG1, e1, z, rfl, hz⟩
  show PQ (j_SL Ls) (j_SV xs) j_EX mm_L_law 268 [.float 5, .ref 0, .ref 46, .ref 81, .int (nI p), a5, a6, a7] [.int z] T1 n c s K
  have hn1 := gs_n hG1
  obtain ⟨ob, hob, -⟩ := gs_obj hG1 (k := 46) rfl
  refine q_pop rfl rfl ?_
  refine q_aload_n rfl rfl rfl ?_
  refine q_aload_nF rfl rfl rfl ?_
  refine q_iload rfl rfl rfl ?_
  refine q_iconst rfl rfl ?_
  refine q_iadd rfl rfl (q_tn (z := nI (p + 1)) (nI_add p 1) ?_)
  refine q_ialdF rfl rfl (sc_i hp hL (by decide)) (q_tn (sc_v hp hL (by decide)) ?_)
  refine q_cV rfl rfl (Or.inl rfl) rfl rfl rfl rfl (by omega) hob trivial rfl (c2 := c) (s2 := s) rfl rfl rfl rfl (l_runc hG1) ?_
  rintro r T2 m9 ⟨en, e2, z', θ', rfl, hG2, hr⟩
  subst m9
  show PQ (j_SL Ls) (j_SV xs) j_EX mm_L_law 279 [.float 5, .ref 0, .ref 46, .ref 81, .int (nI p), a5, a6, a7] [.int z'] T2 n c s K
  refine q_pop rfl rfl ?_
  refine q_goto rfl ?_
  exact hk θ' T2 n c s a5 a6 a7 hG2 (⟨j2_fr (hz z' θ' hr).2.1 e2 hn rfl, jk_fr ((hz z' θ' hr).2.2 hj.2) e2 hn rfl⟩) (by omega) (by omega)
set_option maxHeartbeats 4000000 in
theorem k_4 (hL : Ls < 2 ^ 31) : OKJ (fun θ S => J2 θ S ∧ JK θ S) Ls xs K 320 := by
  intro θ S n c s p a5 a6 a7 hG hj hp hc hs hk
  have hn := gs_n hG
  obtain ⟨fs, k0, -, -, -⟩ := gs_0 hG
  refine q_aload_n rfl rfl rfl ?_
  refine q_aload_nF rfl rfl rfl ?_
  refine q_iload rfl rfl rfl ?_
  refine q_iconst rfl rfl ?_
  refine q_iadd rfl rfl (q_tn (z := nI (p + 1)) (nI_add p 1) ?_)
  refine q_ialdF rfl rfl (sc_i hp hL (by decide)) (q_tn (sc_v hp hL (by decide)) ?_)
  refine q_aload_nF rfl rfl rfl ?_
  refine q_iload rfl rfl rfl ?_
  refine q_iconst rfl rfl ?_
  refine q_iadd rfl rfl (q_tn (z := nI (p + 2)) (nI_add p 2) ?_)
  refine q_ialdF rfl rfl (sc_i hp hL (by decide)) (q_tn (sc_v hp hL (by decide)) ?_)
  refine q_aload_nF rfl rfl rfl ?_
  refine q_iload rfl rfl rfl ?_
  refine q_iconst rfl rfl ?_
  refine q_iadd rfl rfl (q_tn (z := nI (p + 3)) (nI_add p 3) ?_)
  refine q_ialdF rfl rfl (sc_i hp hL (by decide)) (q_tn (sc_v hp hL (by decide)) ?_)
  refine q_cV rfl rfl (Or.inl rfl) rfl rfl rfl rfl (by omega) k0 trivial rfl (c2 := c) (s2 := s) rfl rfl rfl rfl (c_td2 hG hj.1 hj.2) ?_
  rintro r T1 _ ⟨rfl, hG1, e1, z, rfl, hz⟩
  show PQ (j_SL Ls) (j_SV xs) j_EX mm_L_law 342 [.float 5, .ref 0, .ref 46, .ref 81, .int (nI p), a5, a6, a7] [.int z] T1 n c s K
  have hn1 := gs_n hG1
  obtain ⟨ob, hob, -⟩ := gs_obj hG1 (k := 46) rfl
  refine q_aload_n rfl rfl rfl ?_
  refine q_aload_nF rfl rfl rfl ?_
  refine q_iload rfl rfl rfl ?_
  refine q_iconst rfl rfl ?_
  refine q_iadd rfl rfl (q_tn (z := nI (p + 1)) (nI_add p 1) ?_)
  refine q_ialdF rfl rfl (sc_i hp hL (by decide)) (q_tn (sc_v hp hL (by decide)) ?_)
  refine q_aload_nF rfl rfl rfl ?_
  refine q_iload rfl rfl rfl ?_
  refine q_iconst rfl rfl ?_
  refine q_iadd rfl rfl (q_tn (z := nI (p + 2)) (nI_add p 2) ?_)
  refine q_ialdF rfl rfl (sc_i hp hL (by decide)) (q_tn (sc_v hp hL (by decide)) ?_)
  refine q_aload_nF rfl rfl rfl ?_
  refine q_iload rfl rfl rfl ?_
  refine q_iconst rfl rfl ?_
  refine q_iadd rfl rfl (q_tn (z := nI (p + 3)) (nI_add p 3) ?_)
  refine q_ialdF rfl rfl (sc_i hp hL (by decide)) (q_tn (sc_v hp hL (by decide)) ?_)
  refine q_cV rfl rfl (Or.inl rfl) rfl rfl rfl rfl (by omega) hob trivial rfl (c2 := c) (s2 := s) rfl rfl rfl rfl (l_rtd2 hG1) ?_
  rintro r T2 m9 ⟨en, hG2, e2, z', rfl, hz'⟩
  subst m9
  show PQ (j_SL Ls) (j_SV xs) j_EX mm_L_law 364 [.float 5, .ref 0, .ref 46, .ref 81, .int (nI p), a5, a6, a7] [.int z', .int z] T2 n c s K
  refine q_iceq rfl rfl (fun _ => ?_) (fun c9 => absurd (tdR_fn hz hz') c9)
  exact hk θ T2 n c s a5 a6 a7 hG2 (⟨j2_fr (j2_fr hj.1 e1 hn rfl) e2 hn rfl, jk_fr (jk_fr hj.2 e1 hn rfl) e2 hn rfl⟩) (by omega) (by omega)
theorem j2_sm (h : J2 θ S) (m : smf S S') : J2 θ S' := j2_smf θ S S' h m
theorem p_claim (L : Nat) (xs : Nat → Int32) (hL : L ≤ 3072) : pm_W j_ft j_df (j_SL L) (j_SV xs) j_MT j_EX mm_L_law (0, pm_en 8 [.float 5], [], [], 0, 0) (fun r _ => r = some (.int 1)) := by
  have key : PQ (j_SL L) (j_SV xs) j_EX mm_L_law 0 [.float 5, pm_un, pm_un, pm_un, pm_un, pm_un, pm_un, pm_un] [] (fun _ => .inr (99, [])) 0 0 0 (fun r _ _ => r = some (.int 1)) :=
    t_run (J := fun θ S => J2 θ S ∧ JK θ S) (fun θ S S' h m => ⟨j2_sm h.1 m, jk_same h.2 (m 4 (by simp)) (m 5 (by simp)) (m 6 (by simp))⟩) (k_0 (by omega)) (k_1 (by omega)) (k_2 (by omega)) (k_4 (by omega)) (fun _ _ => rfl) hL (fun S hW => ⟨j2_init hW, jk_init hW⟩)
  unfold PQ at key
  exact pm_W_mono _ _ _ _ _ _ key (fun r h' => by rintro ⟨S', n', -, e⟩; exact e)
end WZ
