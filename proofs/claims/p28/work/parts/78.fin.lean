/-! p28: the cases by hand, the claim on the pure machine -/
section WZ
variable {Ls : Nat} {xs : Nat → Int32} {K : q_K} {S S' : Nat → pm_E} {n : Nat} {θ : Th}
theorem j2_fr {l : List Nat} (h : J2 θ S) (e : fr1 l S S' n) (hn : 82 ≤ n) (hl : [1, 3].all (fun k => !(l.contains k)) = true) : J2 θ S' := by
  obtain ⟨⟨fs, a, b⟩, ln, c, d⟩ := h
  have f : ∀ k, k ∈ [1, 3] → l.contains k = false := fun k hk => by simpa using List.all_eq_true.mp hl k hk
  exact ⟨⟨fs, (e 1 (by omega) (f 1 (by simp))).trans a, b⟩, ln, (e 3 (by omega) (f 3 (by simp))).trans c, d⟩
theorem jk_fr {l : List Nat} (h : JK θ S) (e : fr1 l S S' n) (hn : 82 ≤ n) (hl : [4, 5, 6].all (fun k => !(l.contains k)) = true) : JK θ S' := by
  have f : ∀ k, k ∈ [4, 5, 6] → l.contains k = false := fun k hk => by simpa using List.all_eq_true.mp hl k hk
  exact jk_same h (e 4 (by omega) (f 4 (by simp))) (e 5 (by omega) (f 5 (by simp))) (e 6 (by omega) (f 6 (by simp)))
theorem jj_pw (hG : GS θ S n) (hj : J2 θ S ∧ JK θ S ∧ JS S) (e : ∀ k, k < 82 → S' k = S k) (s : ∀ k, k < n → shp (S k) (S' k)) : J2 θ S' ∧ JK θ S' ∧ JS S' := by
  have hn := gs_n hG
  obtain ⟨⟨⟨fs, a, b⟩, ln, c, d⟩, h2, h3⟩ := hj
  exact ⟨⟨⟨fs, (e 1 (by omega)).trans a, b⟩, ln, (e 3 (by omega)).trans c, d⟩, jk_same h2 (e 4 (by omega)) (e 5 (by omega)) (e 6 (by omega)), js_mono hG (fun k hk => e k (by simp only [List.mem_cons, List.not_mem_nil, or_false] at hk; omega)) (fun k _ h => s k h) h3⟩
theorem jj_fr {l : List Nat} (hG : GS θ S n) (hj : J2 θ S ∧ JK θ S ∧ JS S) (e : fr1 l S S' n) (q1 : [1, 3].all (fun k => !(l.contains k)) = true) (q2 : [4, 5, 6].all (fun k => !(l.contains k)) = true) (q3 : l.all (fun k => Nat.ble k 81) = true) (q4 : [43, 75, 76, 77, 78].all (fun k => !(l.contains k)) = true) : J2 θ S' ∧ JK θ S' ∧ JS S' :=
  ⟨j2_fr hj.1 e (gs_n hG) q1, jk_fr hj.2.1 e (gs_n hG) q2, js_fr hG e q3 q4 hj.2.2⟩
/-- behind keep and make of both: hands, lengths, kinds as before -/
theorem jj_km {T1 T2 : Nat → pm_E} {n1 : Nat} {l : List Nat} (hG : GS θ S n) (hle : n ≤ n1) (hj : J2 θ S ∧ JK θ S ∧ JS S) (e1 : ∀ j, j < n → j ≠ 43 → T1 j = S j) (e2 : fr1 l T1 T2 n1) (q : [1, 3, 4, 5, 6].all (fun k => !(l.contains k)) = true) (hJ : JS T2) : J2 θ T2 ∧ JK θ T2 ∧ JS T2 := by
  have hn := gs_n hG
  have f : ∀ k, k ∈ [1, 3, 4, 5, 6] → T2 k = S k := fun k hk => by
    have h1 : l.contains k = false := by simpa using List.all_eq_true.mp q k hk
    simp only [List.mem_cons, List.not_mem_nil, or_false] at hk
    exact (e2 k (by omega) h1).trans (e1 k (by omega) (by omega))
  obtain ⟨⟨⟨fs, a, b⟩, ln, c, d⟩, h2, -⟩ := hj
  exact ⟨⟨⟨fs, (f 1 (by simp)).trans a, b⟩, ln, (f 3 (by simp)).trans c, d⟩, jk_same h2 (f 4 (by simp)) (f 5 (by simp)) (f 6 (by simp)), hJ⟩
theorem kp_js {T1 T2 : Nat → pm_E} {n1 : Nat} {d w k x z z' : Int32} (hG : GS θ S n) (hle : n ≤ n1) (hG1 : GS θ T1 n1) (hj : J2 θ S ∧ JK θ S ∧ JS S) (e1 : ∀ j, j < n → j ≠ 43 → T1 j = S j) (e2 : fr1 [75, 76, 77, 78, 79] T1 T2 n1) (hz : kpR θ d w k x z) (hz' : kpR θ d w k x z') (h1 : (z ≠ 0 ∧ S = T1) ∨ (z = 0 ∧ ckpS θ d.toNatClampNeg w k x S n T1)) (h2 : (z' ≠ 0 ∧ T1 = T2) ∨ (z' = 0 ∧ rkpS θ d.toNatClampNeg w k x T1 T2)) : JS T2 := by
  have ez := kpR_fn hz hz'
  rcases h1 with ⟨a, b⟩ | ⟨a, b⟩ <;> rcases h2 with ⟨a', b'⟩ | ⟨a', b'⟩
  · rw [← b', ← b]
    exact hj.2.2
  · exact absurd (ez.trans a') a
  · exact absurd (ez.symm.trans a) a'
  · have hO : kpO θ d w k x := by
      rcases hz with ⟨h, -⟩ | ⟨-, h⟩
      · exact h
      · rw [a] at h
        exact absurd h (by decide)
    exact js_keep hG hj.2.1 hj.2.2 b e1 b' hG1 hle (c_in8 hO.1).2 e2
theorem mk_js {T1 T2 : Nat → pm_E} {n1 : Nat} {d w x z z' : Int32} (hG : GS θ S n) (hj : J2 θ S ∧ JK θ S ∧ JS S) (e2 : fr1 [75, 78, 79] T1 T2 n1) (hz : mkR d w x z) (hz' : mkR d w x z') (h1 : (z ≠ 0 ∧ S = T1) ∨ (z = 0 ∧ mkO d w x ∧ ¬ x < 0 ∧ ∃ f, S 43 = sh43 f ∧ mkP S n f d w x T1 n1)) (h2 : (z' ≠ 0 ∧ T1 = T2) ∨ (z' = 0 ∧ ∃ hf sf : Nat → Int32, T1 75 = .inl (0, 8, .inl hf) ∧ T1 78 = .inl (0, 8, .inl sf) ∧ T2 75 = .inl (0, 8, .inl (upd hf d.toNatClampNeg w)) ∧ T2 78 = .inl (0, 8, .inl (upd sf d.toNatClampNeg x)))) : JS T2 := by
  have ez := mkR_fn hz hz'
  rcases h1 with ⟨a, b⟩ | ⟨a, hO, hx, f, b1, b2⟩ <;> rcases h2 with ⟨a', b'⟩ | ⟨a', hf, sf, c1, c2, c3, c4⟩
  · rw [← b', ← b]
    exact hj.2.2
  · exact absurd (ez.trans a') a
  · exact absurd (ez.symm.trans a) a'
  · exact js_make hG hj.2.2 hO hx b1 b2 c1 c2 c3 c4 e2
theorem js_kd {f : Nat → Option Nat} {HF KF LF SF : Nat → Int32} {d : Int32} (hJ : JSf S f HF KF LF SF) (h : isSt HF d) : inP (KF d.toNatClampNeg) 0 12 := by
  have H := hJ.2.2.2.2.2 _ (c_in8 h.1).2
  have h1 := h.2
  rcases H with ⟨-, e⟩ | ⟨y, a, b, -, -, -, e, -, q⟩ | ⟨y, z, len, q, -, -, -, -, e, -⟩ | ⟨y, z, len, q, -, -, -, -, e, -⟩
  · rw [h1] at e
    exact absurd e (by decide)
  · rw [e]
    exact q
  · rw [h1] at e
    exact absurd e (by decide)
  · rw [h1] at e
    exact absurd e (by decide)
theorem jk_init (h : FW S) : JK th0 S := by
  refine ⟨_, _, _, FW_4 S h, FW_5 S h, FW_6 S h, fun X i _ _ hl => ?_⟩
  exact absurd hl (by show ¬ (i : Int) < (0 : Int32).toInt; have e : (0 : Int32).toInt = 0 := rfl; omega)
theorem js_init (h : FW S) : JS S := ⟨_, _, _, _, _, FW_43 S h, FW_75 S h, FW_76 S h, FW_77 S h, FW_78 S h, fun _ _ => Or.inl ⟨rfl, rfl⟩⟩
set_option maxHeartbeats 4000000 in
theorem k_0 (hL : Ls < 2 ^ 31) : OKJ (fun θ S => J2 θ S ∧ JK θ S ∧ JS S) Ls xs K 172 := by
  intro θ S n c s p a5 a6 a7 hG hj hp hc hs hk
  have hn := gs_n hG
  obtain ⟨fs, k0, -, -, -⟩ := gs_0 hG
  refine q_aload_n rfl rfl rfl ?_
  refine q_aload_nF rfl rfl rfl ?_
  refine q_iload rfl rfl rfl ?_
  refine q_iconst rfl rfl ?_
  refine q_iadd rfl rfl (q_tn (z := nI (p + 1)) (nI_add p 1) ?_)
  refine q_ialdF rfl rfl (sc_i hp hL (by decide)) (q_tn (sc_v hp hL (by decide)) ?_)
  refine q_cV rfl rfl (Or.inl rfl) rfl rfl rfl rfl (by omega) k0 trivial rfl (c2 := c) (s2 := s) rfl rfl rfl rfl (c_pz hG hj.1) ?_
  rintro r T1 _ ⟨rfl, hG1, e1, u1, u2, z, rfl, hz⟩
  show PQ (j_SL Ls) (j_SV xs) j_EX mm_L_law 182 [.float 5, .ref 0, .ref 46, .ref 81, .int (nI p), a5, a6, a7] [.int z] T1 n c s K
  have hn1 := gs_n hG1
  obtain ⟨ob, hob, -⟩ := gs_obj hG1 (k := 46) rfl
  refine q_pop rfl rfl ?_
  refine q_aload_n rfl rfl rfl ?_
  refine q_aload_nF rfl rfl rfl ?_
  refine q_iload rfl rfl rfl ?_
  refine q_iconst rfl rfl ?_
  refine q_iadd rfl rfl (q_tn (z := nI (p + 1)) (nI_add p 1) ?_)
  refine q_ialdF rfl rfl (sc_i hp hL (by decide)) (q_tn (sc_v hp hL (by decide)) ?_)
  refine q_cV rfl rfl (Or.inl rfl) rfl rfl rfl rfl (by omega) hob trivial rfl (c2 := c) (s2 := s) rfl rfl rfl rfl (l_rpuz hG1) ?_
  rintro r T2 m9 ⟨en, e2, v1, v2, z', θ', rfl, hG2, hr⟩
  subst m9
  show PQ (j_SL Ls) (j_SV xs) j_EX mm_L_law 193 [.float 5, .ref 0, .ref 46, .ref 81, .int (nI p), a5, a6, a7] [.int z'] T2 n c s K
  refine q_pop rfl rfl ?_
  refine q_goto rfl ?_
  exact hk θ' T2 n c s a5 a6 a7 hG2 (⟨j2_fr (hz z' θ' hr).2.1 e2 hn rfl, jk_fr ((hz z' θ' hr).2.2 hj.2.1) e2 hn rfl, js_fr hG1 e2 rfl rfl (js_fr hG e1 rfl rfl hj.2.2)⟩) (by omega) (by omega)
set_option maxHeartbeats 4000000 in
theorem k_1 (hL : Ls < 2 ^ 31) : OKJ (fun θ S => J2 θ S ∧ JK θ S ∧ JS S) Ls xs K 197 := by
  intro θ S n c s p a5 a6 a7 hG hj hp hc hs hk
  have hn := gs_n hG
  obtain ⟨fs, k0, -, -, -⟩ := gs_0 hG
  refine q_aload_n rfl rfl rfl ?_
  refine q_aload_nF rfl rfl rfl ?_
  refine q_iload rfl rfl rfl ?_
  refine q_iconst rfl rfl ?_
  refine q_iadd rfl rfl (q_tn (z := nI (p + 1)) (nI_add p 1) ?_)
  refine q_ialdF rfl rfl (sc_i hp hL (by decide)) (q_tn (sc_v hp hL (by decide)) ?_)
  refine q_aload_nF rfl rfl rfl ?_
  refine q_iload rfl rfl rfl ?_
  refine q_iconst rfl rfl ?_
  refine q_iadd rfl rfl (q_tn (z := nI (p + 2)) (nI_add p 2) ?_)
  refine q_ialdF rfl rfl (sc_i hp hL (by decide)) (q_tn (sc_v hp hL (by decide)) ?_)
  refine q_aload_nF rfl rfl rfl ?_
  refine q_iload rfl rfl rfl ?_
  refine q_iconst rfl rfl ?_
  refine q_iadd rfl rfl (q_tn (z := nI (p + 3)) (nI_add p 3) ?_)
  refine q_ialdF rfl rfl (sc_i hp hL (by decide)) (q_tn (sc_v hp hL (by decide)) ?_)
  refine q_aload_nF rfl rfl rfl ?_
  refine q_iload rfl rfl rfl ?_
  refine q_iconst rfl rfl ?_
  refine q_iadd rfl rfl (q_tn (z := nI (p + 4)) (nI_add p 4) ?_)
  refine q_ialdF rfl rfl (sc_i hp hL (by decide)) (q_tn (sc_v hp hL (by decide)) ?_)
  refine q_cV rfl rfl (Or.inl rfl) rfl rfl rfl rfl (by omega) k0 trivial rfl (c2 := c) (s2 := s) rfl rfl rfl rfl (c_cd hG hj.1) ?_
  rintro r T1 _ ⟨rfl, hG1, e1, z, rfl, hz⟩
  show PQ (j_SL Ls) (j_SV xs) j_EX mm_L_law 225 [.float 5, .ref 0, .ref 46, .ref 81, .int (nI p), a5, a6, a7] [.int z] T1 n c s K
  have hn1 := gs_n hG1
  obtain ⟨ob, hob, -⟩ := gs_obj hG1 (k := 46) rfl
  refine q_pop rfl rfl ?_
  refine q_aload_n rfl rfl rfl ?_
  refine q_aload_nF rfl rfl rfl ?_
  refine q_iload rfl rfl rfl ?_
  refine q_iconst rfl rfl ?_
  refine q_iadd rfl rfl (q_tn (z := nI (p + 1)) (nI_add p 1) ?_)
  refine q_ialdF rfl rfl (sc_i hp hL (by decide)) (q_tn (sc_v hp hL (by decide)) ?_)
  refine q_aload_nF rfl rfl rfl ?_
  refine q_iload rfl rfl rfl ?_
  refine q_iconst rfl rfl ?_
  refine q_iadd rfl rfl (q_tn (z := nI (p + 2)) (nI_add p 2) ?_)
  refine q_ialdF rfl rfl (sc_i hp hL (by decide)) (q_tn (sc_v hp hL (by decide)) ?_)
  refine q_aload_nF rfl rfl rfl ?_
  refine q_iload rfl rfl rfl ?_
  refine q_iconst rfl rfl ?_
  refine q_iadd rfl rfl (q_tn (z := nI (p + 3)) (nI_add p 3) ?_)
  refine q_ialdF rfl rfl (sc_i hp hL (by decide)) (q_tn (sc_v hp hL (by decide)) ?_)
  refine q_aload_nF rfl rfl rfl ?_
  refine q_iload rfl rfl rfl ?_
  refine q_iconst rfl rfl ?_
  refine q_iadd rfl rfl (q_tn (z := nI (p + 4)) (nI_add p 4) ?_)
  refine q_ialdF rfl rfl (sc_i hp hL (by decide)) (q_tn (sc_v hp hL (by decide)) ?_)
  refine q_cV rfl rfl (Or.inl rfl) rfl rfl rfl rfl (by omega) hob trivial rfl (c2 := c) (s2 := s) rfl rfl rfl rfl (l_rcode hG1) ?_
  rintro r T2 m9 ⟨en, e2, z', θ', rfl, hG2, hr⟩
  subst m9
  show PQ (j_SL Ls) (j_SV xs) j_EX mm_L_law 254 [.float 5, .ref 0, .ref 46, .ref 81, .int (nI p), a5, a6, a7] [.int z'] T2 n c s K
  refine q_pop rfl rfl ?_
  refine q_goto rfl ?_
  exact hk θ' T2 n c s a5 a6 a7 hG2 (⟨j2_fr (hz z' θ' hr).2.1 e2 hn rfl, jk_fr ((hz z' θ' hr).2.2 hj.2.1) e2 hn rfl, js_fr hG1 e2 rfl rfl (js_fr hG e1 rfl rfl hj.2.2)⟩) (by omega) (by omega)
set_option maxHeartbeats 4000000 in
theorem k_2 (hL : Ls < 2 ^ 31) : OKJ (fun θ S => J2 θ S ∧ JK θ S ∧ JS S) Ls xs K 258 := by
  intro θ S n c s p a5 a6 a7 hG hj hp hc hs hk
  have hn := gs_n hG
  obtain ⟨fs, k0, -, -, -⟩ := gs_0 hG
  refine q_aload_n rfl rfl rfl ?_
  refine q_aload_nF rfl rfl rfl ?_
  refine q_iload rfl rfl rfl ?_
  refine q_iconst rfl rfl ?_
  refine q_iadd rfl rfl (q_tn (z := nI (p + 1)) (nI_add p 1) ?_)
  refine q_ialdF rfl rfl (sc_i hp hL (by decide)) (q_tn (sc_v hp hL (by decide)) ?_)
  refine q_cV rfl rfl (Or.inl rfl) rfl rfl rfl rfl (by omega) k0 trivial rfl (c2 := c) (s2 := s) rfl rfl rfl rfl (c_un hG hj.1) ?_
  rintro r T1 _ ⟨rfl, hG1, e1, z, rfl, hz⟩
  show PQ (j_SL Ls) (j_SV xs) j_EX mm_L_law 268 [.float 5, .ref 0, .ref 46, .ref 81, .int (nI p), a5, a6, a7] [.int z] T1 n c s K
  have hn1 := gs_n hG1
  obtain ⟨ob, hob, -⟩ := gs_obj hG1 (k := 46) rfl
  refine q_pop rfl rfl ?_
  refine q_aload_n rfl rfl rfl ?_
  refine q_aload_nF rfl rfl rfl ?_
  refine q_iload rfl rfl rfl ?_
  refine q_iconst rfl rfl ?_
  refine q_iadd rfl rfl (q_tn (z := nI (p + 1)) (nI_add p 1) ?_)
  refine q_ialdF rfl rfl (sc_i hp hL (by decide)) (q_tn (sc_v hp hL (by decide)) ?_)
  refine q_cV rfl rfl (Or.inl rfl) rfl rfl rfl rfl (by omega) hob trivial rfl (c2 := c) (s2 := s) rfl rfl rfl rfl (l_runc hG1) ?_
  rintro r T2 m9 ⟨en, e2, z', θ', rfl, hG2, hr⟩
  subst m9
  show PQ (j_SL Ls) (j_SV xs) j_EX mm_L_law 279 [.float 5, .ref 0, .ref 46, .ref 81, .int (nI p), a5, a6, a7] [.int z'] T2 n c s K
  refine q_pop rfl rfl ?_
  refine q_goto rfl ?_
  exact hk θ' T2 n c s a5 a6 a7 hG2 (⟨j2_fr (hz z' θ' hr).2.1 e2 hn rfl, jk_fr ((hz z' θ' hr).2.2 hj.2.1) e2 hn rfl, js_fr hG1 e2 rfl rfl (js_fr hG e1 rfl rfl hj.2.2)⟩) (by omega) (by omega)
set_option maxHeartbeats 4000000 in
theorem k_23 (hL : Ls < 2 ^ 31) : OKJ (fun θ S => J2 θ S ∧ JK θ S ∧ JS S) Ls xs K 967 := by
  intro θ S n c s p a5 a6 a7 hG hj hp hc hs hk
  have hn := gs_n hG
  obtain ⟨fs, k0, -, -, -⟩ := gs_0 hG
  refine q_aload_n rfl rfl rfl ?_
  refine q_aload_nF rfl rfl rfl ?_
  refine q_iload rfl rfl rfl ?_
  refine q_iconst rfl rfl ?_
  refine q_iadd rfl rfl (q_tn (z := nI (p + 1)) (nI_add p 1) ?_)
  refine q_ialdF rfl rfl (sc_i hp hL (by decide)) (q_tn (sc_v hp hL (by decide)) ?_)
  refine q_aload_nF rfl rfl rfl ?_
  refine q_iload rfl rfl rfl ?_
  refine q_iconst rfl rfl ?_
  refine q_iadd rfl rfl (q_tn (z := nI (p + 2)) (nI_add p 2) ?_)
  refine q_ialdF rfl rfl (sc_i hp hL (by decide)) (q_tn (sc_v hp hL (by decide)) ?_)
  refine q_aload_nF rfl rfl rfl ?_
  refine q_iload rfl rfl rfl ?_
  refine q_iconst rfl rfl ?_
  refine q_iadd rfl rfl (q_tn (z := nI (p + 3)) (nI_add p 3) ?_)
  refine q_ialdF rfl rfl (sc_i hp hL (by decide)) (q_tn (sc_v hp hL (by decide)) ?_)
  refine q_aload_nF rfl rfl rfl ?_
  refine q_iload rfl rfl rfl ?_
  refine q_iconst rfl rfl ?_
  refine q_iadd rfl rfl (q_tn (z := nI (p + 4)) (nI_add p 4) ?_)
  refine q_ialdF rfl rfl (sc_i hp hL (by decide)) (q_tn (sc_v hp hL (by decide)) ?_)
  refine q_cV rfl rfl (Or.inl rfl) rfl rfl rfl rfl (by omega) k0 ⟨Nat.ble_eq_true_of_le (show c + 5 ≤ 601024 by omega), Nat.ble_eq_true_of_le (show s + 124 ≤ 7293033 by omega)⟩ rfl (c2 := c + 5) (s2 := s + 124) rfl rfl rfl rfl (c_kp2 hG hj.1) ?_
  rintro r T1 n1 ⟨le1, hG1, e1, z, rfl, hz, hs1⟩
  show PQ (j_SL Ls) (j_SV xs) j_EX mm_L_law 995 [.float 5, .ref 0, .ref 46, .ref 81, .int (nI p), a5, a6, a7] [.int z] T1 n1 (c + 5) (s + 124) K
  have hn1 := gs_n hG1
  obtain ⟨ob, hob, -⟩ := gs_obj hG1 (k := 46) rfl
  refine q_pop rfl rfl ?_
  refine q_aload_n rfl rfl rfl ?_
  refine q_aload_nF rfl rfl rfl ?_
  refine q_iload rfl rfl rfl ?_
  refine q_iconst rfl rfl ?_
  refine q_iadd rfl rfl (q_tn (z := nI (p + 1)) (nI_add p 1) ?_)
  refine q_ialdF rfl rfl (sc_i hp hL (by decide)) (q_tn (sc_v hp hL (by decide)) ?_)
  refine q_aload_nF rfl rfl rfl ?_
  refine q_iload rfl rfl rfl ?_
  refine q_iconst rfl rfl ?_
  refine q_iadd rfl rfl (q_tn (z := nI (p + 2)) (nI_add p 2) ?_)
  refine q_ialdF rfl rfl (sc_i hp hL (by decide)) (q_tn (sc_v hp hL (by decide)) ?_)
  refine q_aload_nF rfl rfl rfl ?_
  refine q_iload rfl rfl rfl ?_
  refine q_iconst rfl rfl ?_
  refine q_iadd rfl rfl (q_tn (z := nI (p + 3)) (nI_add p 3) ?_)
  refine q_ialdF rfl rfl (sc_i hp hL (by decide)) (q_tn (sc_v hp hL (by decide)) ?_)
  refine q_aload_nF rfl rfl rfl ?_
  refine q_iload rfl rfl rfl ?_
  refine q_iconst rfl rfl ?_
  refine q_iadd rfl rfl (q_tn (z := nI (p + 4)) (nI_add p 4) ?_)
  refine q_ialdF rfl rfl (sc_i hp hL (by decide)) (q_tn (sc_v hp hL (by decide)) ?_)
  refine q_cV rfl rfl (Or.inl rfl) rfl rfl rfl rfl (by omega) hob trivial rfl (c2 := (c + 5)) (s2 := (s + 124)) rfl rfl rfl rfl (l_rkp hG1) ?_
  rintro r T2 m9 ⟨en, hG2, e2, z', rfl, hz', hs2⟩
  subst m9
  show PQ (j_SL Ls) (j_SV xs) j_EX mm_L_law 1024 [.float 5, .ref 0, .ref 46, .ref 81, .int (nI p), a5, a6, a7] [.int z'] T2 n1 (c + 5) (s + 124) K
  refine q_pop rfl rfl ?_
  refine q_goto rfl ?_
  exact hk θ T2 n1 (c + 5) (s + 124) a5 a6 a7 hG2 (jj_km hG le1 hj e1 e2 rfl (kp_js hG le1 hG1 hj e1 e2 hz hz' hs1 hs2)) (by omega) (by omega)
set_option maxHeartbeats 4000000 in
theorem k_24 (hL : Ls < 2 ^ 31) : OKJ (fun θ S => J2 θ S ∧ JK θ S ∧ JS S) Ls xs K 1028 := by
  intro θ S n c s p a5 a6 a7 hG hj hp hc hs hk
  have hn := gs_n hG
  obtain ⟨fs, k0, -, -, -⟩ := gs_0 hG
  refine q_aload_n rfl rfl rfl ?_
  refine q_aload_nF rfl rfl rfl ?_
  refine q_iload rfl rfl rfl ?_
  refine q_iconst rfl rfl ?_
  refine q_iadd rfl rfl (q_tn (z := nI (p + 1)) (nI_add p 1) ?_)
  refine q_ialdF rfl rfl (sc_i hp hL (by decide)) (q_tn (sc_v hp hL (by decide)) ?_)
  refine q_aload_nF rfl rfl rfl ?_
  refine q_iload rfl rfl rfl ?_
  refine q_iconst rfl rfl ?_
  refine q_iadd rfl rfl (q_tn (z := nI (p + 2)) (nI_add p 2) ?_)
  refine q_ialdF rfl rfl (sc_i hp hL (by decide)) (q_tn (sc_v hp hL (by decide)) ?_)
  refine q_aload_nF rfl rfl rfl ?_
  refine q_iload rfl rfl rfl ?_
  refine q_iconst rfl rfl ?_
  refine q_iadd rfl rfl (q_tn (z := nI (p + 3)) (nI_add p 3) ?_)
  refine q_ialdF rfl rfl (sc_i hp hL (by decide)) (q_tn (sc_v hp hL (by decide)) ?_)
  refine q_cV rfl rfl (Or.inl rfl) rfl rfl rfl rfl (by omega) k0 ⟨Nat.ble_eq_true_of_le (show c + 4 ≤ 601024 by omega), Nat.ble_eq_true_of_le (show s + 122 ≤ 7293033 by omega)⟩ rfl (c2 := c + 4) (s2 := s + 122) rfl rfl rfl rfl (c_mk2 hG) ?_
  rintro r T1 n1 ⟨le1, hG1, e1, z, rfl, hz, hs1⟩
  show PQ (j_SL Ls) (j_SV xs) j_EX mm_L_law 1050 [.float 5, .ref 0, .ref 46, .ref 81, .int (nI p), a5, a6, a7] [.int z] T1 n1 (c + 4) (s + 122) K
  have hn1 := gs_n hG1
  obtain ⟨ob, hob, -⟩ := gs_obj hG1 (k := 46) rfl
  refine q_pop rfl rfl ?_
  refine q_aload_n rfl rfl rfl ?_
  refine q_aload_nF rfl rfl rfl ?_
  refine q_iload rfl rfl rfl ?_
  refine q_iconst rfl rfl ?_
  refine q_iadd rfl rfl (q_tn (z := nI (p + 1)) (nI_add p 1) ?_)
  refine q_ialdF rfl rfl (sc_i hp hL (by decide)) (q_tn (sc_v hp hL (by decide)) ?_)
  refine q_aload_nF rfl rfl rfl ?_
  refine q_iload rfl rfl rfl ?_
  refine q_iconst rfl rfl ?_
  refine q_iadd rfl rfl (q_tn (z := nI (p + 2)) (nI_add p 2) ?_)
  refine q_ialdF rfl rfl (sc_i hp hL (by decide)) (q_tn (sc_v hp hL (by decide)) ?_)
  refine q_aload_nF rfl rfl rfl ?_
  refine q_iload rfl rfl rfl ?_
  refine q_iconst rfl rfl ?_
  refine q_iadd rfl rfl (q_tn (z := nI (p + 3)) (nI_add p 3) ?_)
  refine q_ialdF rfl rfl (sc_i hp hL (by decide)) (q_tn (sc_v hp hL (by decide)) ?_)
  refine q_cV rfl rfl (Or.inl rfl) rfl rfl rfl rfl (by omega) hob trivial rfl (c2 := (c + 4)) (s2 := (s + 122)) rfl rfl rfl rfl (l_rmk hG1) ?_
  rintro r T2 m9 ⟨en, hG2, e2, z', rfl, hz', hs2⟩
  subst m9
  show PQ (j_SL Ls) (j_SV xs) j_EX mm_L_law 1073 [.float 5, .ref 0, .ref 46, .ref 81, .int (nI p), a5, a6, a7] [.int z'] T2 n1 (c + 4) (s + 122) K
  refine q_pop rfl rfl ?_
  refine q_goto rfl ?_
  exact hk θ T2 n1 (c + 4) (s + 122) a5 a6 a7 hG2 (jj_km hG le1 hj e1 e2 rfl (mk_js hG hj e2 hz hz' hs1 hs2)) (by omega) (by omega)
set_option maxHeartbeats 4000000 in
theorem k_26 (hL : Ls < 2 ^ 31) : OKJ (fun θ S => J2 θ S ∧ JK θ S ∧ JS S) Ls xs K 1117 := by
  intro θ S n c s p a5 a6 a7 hG hj hp hc hs hk
  have hn := gs_n hG
  obtain ⟨fs, k0, -, -, -⟩ := gs_0 hG
  obtain ⟨f, HF, KF, LF, SF, hJf⟩ := hj.2.2
  refine q_aload_n rfl rfl rfl ?_
  refine q_aload_nF rfl rfl rfl ?_
  refine q_iload rfl rfl rfl ?_
  refine q_iconst rfl rfl ?_
  refine q_iadd rfl rfl (q_tn (z := nI (p + 1)) (nI_add p 1) ?_)
  refine q_ialdF rfl rfl (sc_i hp hL (by decide)) (q_tn (sc_v hp hL (by decide)) ?_)
  refine q_aload_nF rfl rfl rfl ?_
  refine q_iload rfl rfl rfl ?_
  refine q_iconst rfl rfl ?_
  refine q_iadd rfl rfl (q_tn (z := nI (p + 2)) (nI_add p 2) ?_)
  refine q_ialdF rfl rfl (sc_i hp hL (by decide)) (q_tn (sc_v hp hL (by decide)) ?_)
  refine q_aload_nF rfl rfl rfl ?_
  refine q_iload rfl rfl rfl ?_
  refine q_iconst rfl rfl ?_
  refine q_iadd rfl rfl (q_tn (z := nI (p + 3)) (nI_add p 3) ?_)
  refine q_ialdF rfl rfl (sc_i hp hL (by decide)) (q_tn (sc_v hp hL (by decide)) ?_)
  refine q_aload_nF rfl rfl rfl ?_
  refine q_iload rfl rfl rfl ?_
  refine q_iconst rfl rfl ?_
  refine q_iadd rfl rfl (q_tn (z := nI (p + 4)) (nI_add p 4) ?_)
  refine q_ialdF rfl rfl (sc_i hp hL (by decide)) (q_tn (sc_v hp hL (by decide)) ?_)
  refine q_aload_nF rfl rfl rfl ?_
  refine q_iload rfl rfl rfl ?_
  refine q_iconst rfl rfl ?_
  refine q_iadd rfl rfl (q_tn (z := nI (p + 5)) (nI_add p 5) ?_)
  refine q_ialdF rfl rfl (sc_i hp hL (by decide)) (q_tn (sc_v hp hL (by decide)) ?_)
  refine q_cV rfl rfl (Or.inl rfl) rfl rfl rfl rfl (by omega) k0 trivial rfl (c2 := c) (s2 := s) rfl rfl rfl rfl (c_cpJ hG hJf) ?_
  rintro r T1 n1 ⟨le1, hG1, e1, s1, z, rfl, hz⟩
  show PQ (j_SL Ls) (j_SV xs) j_EX mm_L_law 1151 [.float 5, .ref 0, .ref 46, .ref 81, .int (nI p), a5, a6, a7] [.int z] T1 n1 c s K
  have hn1 := gs_n hG1
  obtain ⟨ob, hob, -⟩ := gs_obj hG1 (k := 46) rfl
  refine q_aload_n rfl rfl rfl ?_
  refine q_aload_nF rfl rfl rfl ?_
  refine q_iload rfl rfl rfl ?_
  refine q_iconst rfl rfl ?_
  refine q_iadd rfl rfl (q_tn (z := nI (p + 1)) (nI_add p 1) ?_)
  refine q_ialdF rfl rfl (sc_i hp hL (by decide)) (q_tn (sc_v hp hL (by decide)) ?_)
  refine q_aload_nF rfl rfl rfl ?_
  refine q_iload rfl rfl rfl ?_
  refine q_iconst rfl rfl ?_
  refine q_iadd rfl rfl (q_tn (z := nI (p + 2)) (nI_add p 2) ?_)
  refine q_ialdF rfl rfl (sc_i hp hL (by decide)) (q_tn (sc_v hp hL (by decide)) ?_)
  refine q_aload_nF rfl rfl rfl ?_
  refine q_iload rfl rfl rfl ?_
  refine q_iconst rfl rfl ?_
  refine q_iadd rfl rfl (q_tn (z := nI (p + 3)) (nI_add p 3) ?_)
  refine q_ialdF rfl rfl (sc_i hp hL (by decide)) (q_tn (sc_v hp hL (by decide)) ?_)
  refine q_aload_nF rfl rfl rfl ?_
  refine q_iload rfl rfl rfl ?_
  refine q_iconst rfl rfl ?_
  refine q_iadd rfl rfl (q_tn (z := nI (p + 4)) (nI_add p 4) ?_)
  refine q_ialdF rfl rfl (sc_i hp hL (by decide)) (q_tn (sc_v hp hL (by decide)) ?_)
  refine q_aload_nF rfl rfl rfl ?_
  refine q_iload rfl rfl rfl ?_
  refine q_iconst rfl rfl ?_
  refine q_iadd rfl rfl (q_tn (z := nI (p + 5)) (nI_add p 5) ?_)
  refine q_ialdF rfl rfl (sc_i hp hL (by decide)) (q_tn (sc_v hp hL (by decide)) ?_)
  refine q_cV rfl rfl (Or.inl rfl) rfl rfl rfl rfl (by omega) hob trivial rfl (c2 := c) (s2 := s) rfl rfl rfl rfl (l_rcp2 hG1 ((e1 75 (by omega)).trans hJf.2.1) ((e1 78 (by omega)).trans hJf.2.2.2.2.1)) ?_
  rintro r T2 m9 ⟨en, hG2, e2, z', rfl, hz'⟩
  subst m9
  show PQ (j_SL Ls) (j_SV xs) j_EX mm_L_law 1185 [.float 5, .ref 0, .ref 46, .ref 81, .int (nI p), a5, a6, a7] [.int z', .int z] T2 n1 c s K
  refine q_iceq rfl rfl (fun _ => ?_) (fun c9 => absurd (cpR_fn hz hz') c9)
  exact hk θ T2 n1 c s a5 a6 a7 hG2 (jj_fr hG1 (jj_pw hG hj e1 s1) e2 rfl rfl rfl rfl) (by omega) (by omega)
theorem j2_sk (h : J2 θ S) (e1 : S' 1 = S 1) (e3 : S' 3 = S 3) : J2 θ S' := by
  obtain ⟨⟨fs, a, b⟩, ln, c, d⟩ := h
  exact ⟨⟨fs, e1.trans a, b⟩, ln, e3.trans c, d⟩
theorem p_claim (L : Nat) (xs : Nat → Int32) (hL : L ≤ 3072) : pm_W j_ft j_df (j_SL L) (j_SV xs) j_MT j_EX mm_L_law (0, pm_en 8 [.float 5], [], [], 0, 0) (fun r _ => r = some (.int 1)) := by
  have key : PQ (j_SL L) (j_SV xs) j_EX mm_L_law 0 [.float 5, pm_un, pm_un, pm_un, pm_un, pm_un, pm_un, pm_un] [] (fun _ => .inr (99, [])) 0 0 0 (fun r _ _ => r = some (.int 1)) :=
    t_run (J := fun θ S => J2 θ S ∧ JK θ S ∧ JS S) (fun θ S n S' hG h m => ⟨j2_sk h.1 (m.1 1 (by simp)) (m.1 3 (by simp)), jk_same h.2.1 (m.1 4 (by simp)) (m.1 5 (by simp)) (m.1 6 (by simp)), js_mono hG (fun k hk => m.1 k (by simp only [List.mem_cons, List.not_mem_nil, or_false] at hk ⊢; omega)) m.2 h.2.2⟩) (k_0 (by omega)) (k_1 (by omega)) (k_2 (by omega)) (k_23 (by omega)) (k_24 (by omega)) (k_26 (by omega)) (fun _ _ => rfl) hL (fun S hW => ⟨j2_init hW, jk_init hW, js_init hW⟩)
  unfold PQ at key
  exact pm_W_mono _ _ _ _ _ _ key (fun r h' => by rintro ⟨S', n', -, e⟩; exact e)
end WZ
