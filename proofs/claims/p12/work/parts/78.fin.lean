/-! p12: the cases by hand, the claim on the pure machine -/
section WZ
variable {Ls : Nat} {xs : Nat → Int32} {K : q_K} {S S' : Nat → pm_E} {n : Nat} {θ : Th}
set_option maxHeartbeats 4000000 in
theorem k_0 (hL : Ls < 2 ^ 31) : OKJ (JAo) Ls xs K 172 := by
  intro θ S n c s p a5 a6 a7 hG hj hp hc hs hk
  have hn := gs_n hG
  obtain ⟨fs, k0, -, -, -⟩ := gs_0 hG
  refine q_aload_n rfl rfl rfl ?_
  refine q_aload_nF rfl rfl rfl ?_
  refine q_iload rfl rfl rfl ?_
  refine q_iconst rfl rfl ?_
  refine q_iadd rfl rfl (q_tn (z := nI (p + 1)) (nI_add p 1) ?_)
  refine q_ialdF rfl rfl (sc_i hp hL (by decide)) (q_tn (sc_v hp hL (by decide)) ?_)
  refine q_cV rfl rfl (Or.inl rfl) rfl rfl rfl rfl (by omega) k0 trivial rfl (c2 := c) (s2 := s) rfl rfl rfl rfl (c_pz hG hj.1.1) ?_
  rintro r T1 _ ⟨-, rfl, hG1, e1, u1, u2, z, rfl, hz⟩
  show PQ (j_SL Ls) (j_SV xs) j_EX mm_L_law 182 [.float 5, .ref 0, .ref 46, .ref 81, .int (nI p), a5, a6, a7] [.int z] T1 n c s K
  have hn1 := gs_n hG1
  obtain ⟨ob, hob, -⟩ := gs_obj hG1 (k := 46) rfl
  refine q_pop rfl rfl ?_
  refine q_aload_n rfl rfl rfl ?_
  refine q_aload_nF rfl rfl rfl ?_
  refine q_iload rfl rfl rfl ?_
  refine q_iconst rfl rfl ?_
  refine q_iadd rfl rfl (q_tn (z := nI (p + 1)) (nI_add p 1) ?_)
  refine q_ialdF rfl rfl (sc_i hp hL (by decide)) (q_tn (sc_v hp hL (by decide)) ?_)
  refine q_cV rfl rfl (Or.inl rfl) rfl rfl rfl rfl (by omega) hob trivial rfl (c2 := c) (s2 := s) rfl rfl rfl rfl (l_rpuz hG1) ?_
  rintro r T2 m9 ⟨-, en, e2, v1, v2, z', θ', rfl, hG2, hr⟩
  subst m9
  show PQ (j_SL Ls) (j_SV xs) j_EX mm_L_law 193 [.float 5, .ref 0, .ref 46, .ref 81, .int (nI p), a5, a6, a7] [.int z'] T2 n c s K
  refine q_pop rfl rfl ?_
  refine q_goto rfl ?_
  exact hk θ' T2 n c s a5 a6 a7 hG2 (jao_puz hG hG2 hj (ja_puz hG hG2 hj.1 (hz z' θ' hr).2.1 ((hz z' θ' hr).2.2 hj.1.2.1) e1 e2 u1 u2 v1 v2 hr) e2 u1 (fun h => (u2 h).1) v1 (fun h => (v2 h).1) hr) (by omega) (by omega)
set_option maxHeartbeats 4000000 in
theorem k_1 (hL : Ls < 2 ^ 31) : OKJ (JAo) Ls xs K 197 := by
  intro θ S n c s p a5 a6 a7 hG hj hp hc hs hk
  have hn := gs_n hG
  obtain ⟨fs, k0, -, -, -⟩ := gs_0 hG
  refine q_aload_n rfl rfl rfl ?_
  refine q_aload_nF rfl rfl rfl ?_
  refine q_iload rfl rfl rfl ?_
  refine q_iconst rfl rfl ?_
  refine q_iadd rfl rfl (q_tn (z := nI (p + 1)) (nI_add p 1) ?_)
  refine q_ialdF rfl rfl (sc_i hp hL (by decide)) (q_tn (sc_v hp hL (by decide)) ?_)
  refine q_aload_nF rfl rfl rfl ?_
  refine q_iload rfl rfl rfl ?_
  refine q_iconst rfl rfl ?_
  refine q_iadd rfl rfl (q_tn (z := nI (p + 2)) (nI_add p 2) ?_)
  refine q_ialdF rfl rfl (sc_i hp hL (by decide)) (q_tn (sc_v hp hL (by decide)) ?_)
  refine q_aload_nF rfl rfl rfl ?_
  refine q_iload rfl rfl rfl ?_
  refine q_iconst rfl rfl ?_
  refine q_iadd rfl rfl (q_tn (z := nI (p + 3)) (nI_add p 3) ?_)
  refine q_ialdF rfl rfl (sc_i hp hL (by decide)) (q_tn (sc_v hp hL (by decide)) ?_)
  refine q_aload_nF rfl rfl rfl ?_
  refine q_iload rfl rfl rfl ?_
  refine q_iconst rfl rfl ?_
  refine q_iadd rfl rfl (q_tn (z := nI (p + 4)) (nI_add p 4) ?_)
  refine q_ialdF rfl rfl (sc_i hp hL (by decide)) (q_tn (sc_v hp hL (by decide)) ?_)
  refine q_cV rfl rfl (Or.inl rfl) rfl rfl rfl rfl (by omega) k0 trivial rfl (c2 := c) (s2 := s) rfl rfl rfl rfl (c_cd hG hj.1.1) ?_
  rintro r T1 _ ⟨y1, rfl, hG1, e1, z, rfl, hz⟩
  show PQ (j_SL Ls) (j_SV xs) j_EX mm_L_law 225 [.float 5, .ref 0, .ref 46, .ref 81, .int (nI p), a5, a6, a7] [.int z] T1 n c s K
  have hn1 := gs_n hG1
  obtain ⟨ob, hob, -⟩ := gs_obj hG1 (k := 46) rfl
  refine q_pop rfl rfl ?_
  refine q_aload_n rfl rfl rfl ?_
  refine q_aload_nF rfl rfl rfl ?_
  refine q_iload rfl rfl rfl ?_
  refine q_iconst rfl rfl ?_
  refine q_iadd rfl rfl (q_tn (z := nI (p + 1)) (nI_add p 1) ?_)
  refine q_ialdF rfl rfl (sc_i hp hL (by decide)) (q_tn (sc_v hp hL (by decide)) ?_)
  refine q_aload_nF rfl rfl rfl ?_
  refine q_iload rfl rfl rfl ?_
  refine q_iconst rfl rfl ?_
  refine q_iadd rfl rfl (q_tn (z := nI (p + 2)) (nI_add p 2) ?_)
  refine q_ialdF rfl rfl (sc_i hp hL (by decide)) (q_tn (sc_v hp hL (by decide)) ?_)
  refine q_aload_nF rfl rfl rfl ?_
  refine q_iload rfl rfl rfl ?_
  refine q_iconst rfl rfl ?_
  refine q_iadd rfl rfl (q_tn (z := nI (p + 3)) (nI_add p 3) ?_)
  refine q_ialdF rfl rfl (sc_i hp hL (by decide)) (q_tn (sc_v hp hL (by decide)) ?_)
  refine q_aload_nF rfl rfl rfl ?_
  refine q_iload rfl rfl rfl ?_
  refine q_iconst rfl rfl ?_
  refine q_iadd rfl rfl (q_tn (z := nI (p + 4)) (nI_add p 4) ?_)
  refine q_ialdF rfl rfl (sc_i hp hL (by decide)) (q_tn (sc_v hp hL (by decide)) ?_)
  refine q_cV rfl rfl (Or.inl rfl) rfl rfl rfl rfl (by omega) hob trivial rfl (c2 := c) (s2 := s) rfl rfl rfl rfl (l_rcode hG1) ?_
  rintro r T2 m9 ⟨y2, en, e2, z', θ', rfl, hG2, hr⟩
  subst m9
  show PQ (j_SL Ls) (j_SV xs) j_EX mm_L_law 254 [.float 5, .ref 0, .ref 46, .ref 81, .int (nI p), a5, a6, a7] [.int z'] T2 n c s K
  refine q_pop rfl rfl ?_
  refine q_goto rfl ?_
  exact hk θ' T2 n c s a5 a6 a7 hG2 (jao_step hG hG1 hG2 hj (hz z' θ' hr).2.1 (ja_step hG hG1 hG2 hj.1 (hz z' θ' hr).2.1 ((hz z' θ' hr).2.2 hj.1.2.1) (wq_cd hj.1.2.2.1 hr).1 e1 e2 rfl rfl y1 y2 (wq_cd hj.1.2.2.1 hr).2) e1 e2 ⟨rfl, rfl⟩ ⟨rfl, rfl, rfl⟩ y1 y2 (wq_cd hj.1.2.2.1 hr).2) (by omega) (by omega)
set_option maxHeartbeats 4000000 in
theorem k_2 (hL : Ls < 2 ^ 31) : OKJ (JAo) Ls xs K 258 := by
  intro θ S n c s p a5 a6 a7 hG hj hp hc hs hk
  have hn := gs_n hG
  obtain ⟨fs, k0, -, -, -⟩ := gs_0 hG
  refine q_aload_n rfl rfl rfl ?_
  refine q_aload_nF rfl rfl rfl ?_
  refine q_iload rfl rfl rfl ?_
  refine q_iconst rfl rfl ?_
  refine q_iadd rfl rfl (q_tn (z := nI (p + 1)) (nI_add p 1) ?_)
  refine q_ialdF rfl rfl (sc_i hp hL (by decide)) (q_tn (sc_v hp hL (by decide)) ?_)
  refine q_cV rfl rfl (Or.inl rfl) rfl rfl rfl rfl (by omega) k0 trivial rfl (c2 := c) (s2 := s) rfl rfl rfl rfl (c_un hG hj.1.1) ?_
  rintro r T1 _ ⟨y1, rfl, hG1, e1, z, rfl, hz⟩
  show PQ (j_SL Ls) (j_SV xs) j_EX mm_L_law 268 [.float 5, .ref 0, .ref 46, .ref 81, .int (nI p), a5, a6, a7] [.int z] T1 n c s K
  have hn1 := gs_n hG1
  obtain ⟨ob, hob, -⟩ := gs_obj hG1 (k := 46) rfl
  refine q_pop rfl rfl ?_
  refine q_aload_n rfl rfl rfl ?_
  refine q_aload_nF rfl rfl rfl ?_
  refine q_iload rfl rfl rfl ?_
  refine q_iconst rfl rfl ?_
  refine q_iadd rfl rfl (q_tn (z := nI (p + 1)) (nI_add p 1) ?_)
  refine q_ialdF rfl rfl (sc_i hp hL (by decide)) (q_tn (sc_v hp hL (by decide)) ?_)
  refine q_cV rfl rfl (Or.inl rfl) rfl rfl rfl rfl (by omega) hob trivial rfl (c2 := c) (s2 := s) rfl rfl rfl rfl (l_runc hG1) ?_
  rintro r T2 m9 ⟨y2, en, e2, z', θ', rfl, hG2, hr⟩
  subst m9
  show PQ (j_SL Ls) (j_SV xs) j_EX mm_L_law 279 [.float 5, .ref 0, .ref 46, .ref 81, .int (nI p), a5, a6, a7] [.int z'] T2 n c s K
  refine q_pop rfl rfl ?_
  refine q_goto rfl ?_
  exact hk θ' T2 n c s a5 a6 a7 hG2 (jao_step hG hG1 hG2 hj (hz z' θ' hr).2.1 (ja_step hG hG1 hG2 hj.1 (hz z' θ' hr).2.1 ((hz z' θ' hr).2.2 hj.1.2.1) (wq_uc (gs_rq hG) hj.1.2.2.1 hr).1 e1 e2 rfl rfl y1 y2 (wq_uc (gs_rq hG) hj.1.2.2.1 hr).2) e1 e2 ⟨rfl, rfl⟩ ⟨rfl, rfl, rfl⟩ y1 y2 (wq_uc (gs_rq hG) hj.1.2.2.1 hr).2) (by omega) (by omega)
set_option maxHeartbeats 4000000 in
theorem k_3 (hL : Ls < 2 ^ 31) : OKJ (JAo) Ls xs K 283 := by
  intro θ S n c s p a5 a6 a7 hG hj hp hc hs hk
  have hn := gs_n hG
  obtain ⟨fs, k0, -, -, -⟩ := gs_0 hG
  refine q_aload_n rfl rfl rfl ?_
  refine q_aload_nF rfl rfl rfl ?_
  refine q_iload rfl rfl rfl ?_
  refine q_iconst rfl rfl ?_
  refine q_iadd rfl rfl (q_tn (z := nI (p + 1)) (nI_add p 1) ?_)
  refine q_ialdF rfl rfl (sc_i hp hL (by decide)) (q_tn (sc_v hp hL (by decide)) ?_)
  refine q_aload_nF rfl rfl rfl ?_
  refine q_iload rfl rfl rfl ?_
  refine q_iconst rfl rfl ?_
  refine q_iadd rfl rfl (q_tn (z := nI (p + 2)) (nI_add p 2) ?_)
  refine q_ialdF rfl rfl (sc_i hp hL (by decide)) (q_tn (sc_v hp hL (by decide)) ?_)
  refine q_cV rfl rfl (Or.inl rfl) rfl rfl rfl rfl (by omega) k0 trivial rfl (c2 := c) (s2 := s) rfl rfl rfl rfl (c_va hG) ?_
  rintro r T1 _ ⟨y1, rfl, hG1, e1, z, f, f', rfl, q1, q2, hv⟩
  show PQ (j_SL Ls) (j_SV xs) j_EX mm_L_law 299 [.float 5, .ref 0, .ref 46, .ref 81, .int (nI p), a5, a6, a7] [.int z] T1 n c s K
  have hn1 := gs_n hG1
  obtain ⟨ob, hob, -⟩ := gs_obj hG1 (k := 46) rfl
  refine q_pop rfl rfl ?_
  refine q_aload_n rfl rfl rfl ?_
  refine q_aload_nF rfl rfl rfl ?_
  refine q_iload rfl rfl rfl ?_
  refine q_iconst rfl rfl ?_
  refine q_iadd rfl rfl (q_tn (z := nI (p + 1)) (nI_add p 1) ?_)
  refine q_ialdF rfl rfl (sc_i hp hL (by decide)) (q_tn (sc_v hp hL (by decide)) ?_)
  refine q_aload_nF rfl rfl rfl ?_
  refine q_iload rfl rfl rfl ?_
  refine q_iconst rfl rfl ?_
  refine q_iadd rfl rfl (q_tn (z := nI (p + 2)) (nI_add p 2) ?_)
  refine q_ialdF rfl rfl (sc_i hp hL (by decide)) (q_tn (sc_v hp hL (by decide)) ?_)
  refine q_cV rfl rfl (Or.inl rfl) rfl rfl rfl rfl (by omega) hob trivial rfl (c2 := c) (s2 := s) rfl rfl rfl rfl (l_rva hG1) ?_
  rintro r T2 m9 ⟨y2, en, hG2, e2, z', g, g', rfl, q3, q4, hv'⟩
  subst m9
  show PQ (j_SL Ls) (j_SV xs) j_EX mm_L_law 316 [.float 5, .ref 0, .ref 46, .ref 81, .int (nI p), a5, a6, a7] [.int z'] T2 n c s K
  refine q_pop rfl rfl ?_
  refine q_goto rfl ?_
  exact hk θ T2 n c s a5 a6 a7 hG2 (jao_vl hG hG2 hj (ja_vl hG hG2 hj.1 e1 e2 y1 y2 q1 q2 q3 q4 hv hv').2 e1 e2 y1 y2 q1 q2 q3 q4) (by omega) (by omega)
set_option maxHeartbeats 4000000 in
theorem k_9 (hL : Ls < 2 ^ 31) : OKJ (JAo) Ls xs K 469 := by
  intro θ S n c s p a5 a6 a7 hG hj hp hc hs hk
  have hn := gs_n hG
  obtain ⟨fs, k0, -, -, -⟩ := gs_0 hG
  obtain ⟨f, k2, hGZ⟩ := jao_gy hG hj
  have hGJ := (gz_ab hGZ).1
  refine q_aload_n rfl rfl rfl ?_
  refine q_aload_nF rfl rfl rfl ?_
  refine q_iload rfl rfl rfl ?_
  refine q_iconst rfl rfl ?_
  refine q_iadd rfl rfl (q_tn (z := nI (p + 1)) (nI_add p 1) ?_)
  refine q_ialdF rfl rfl (sc_i hp hL (by decide)) (q_tn (sc_v hp hL (by decide)) ?_)
  refine q_cV rfl rfl (Or.inl rfl) rfl rfl rfl rfl (by omega) k0 trivial rfl (c2 := c) (s2 := s) rfl rfl rfl rfl (ro_c hn (pm_weak (q_kj wb95 [(xs (p + 1)).toInt] hGJ ⟨rfl, ck_oku rfl rfl, trivial⟩ (ck_en_c (fullI _).1 (fullI _).2 ck_en_n) (fun d hd => by cases hd)) (fun r S9 n9 h => rj_of rfl h)) (c_count (gj_ab hGJ).1 (gj_ab hGJ).2.2 (gz_ab hGZ).2)) ?_
  rintro r T1 _ ⟨rfl, hGJ1, e1, hJ1, z, rfl, hz⟩
  show PQ (j_SL Ls) (j_SV xs) j_EX mm_L_law 479 [.float 5, .ref 0, .ref 46, .ref 81, .int (nI p), a5, a6, a7] [.int z] T1 n c s K
  have hn1 := gs_n (gj_ab hGJ1).1
  obtain ⟨ob, hob, -⟩ := gs_obj (gj_ab hGJ1).1 (k := 46) rfl
  refine q_pop rfl rfl ?_
  refine q_aload_n rfl rfl rfl ?_
  refine q_aload_nF rfl rfl rfl ?_
  refine q_iload rfl rfl rfl ?_
  refine q_iconst rfl rfl ?_
  refine q_iadd rfl rfl (q_tn (z := nI (p + 1)) (nI_add p 1) ?_)
  refine q_ialdF rfl rfl (sc_i hp hL (by decide)) (q_tn (sc_v hp hL (by decide)) ?_)
  refine q_cV rfl rfl (Or.inl rfl) rfl rfl rfl rfl (by omega) hob trivial rfl (c2 := c) (s2 := s) rfl rfl rfl rfl (rj_and (pm_weak (q_kj wb205 [(xs (p + 1)).toInt] hGJ1 ⟨rfl, ck_oku rfl rfl, trivial⟩ (ck_en_c (fullI _).1 (fullI _).2 ck_en_n) (fun d hd => by cases hd)) (fun r S9 n9 h => rj_of rfl h)) (l_count (gj_ab hGJ1).1 (gj_ab hGJ1).2.1 (gj_ab hGJ1).2.2)) ?_
  rintro r T2 m9 ⟨en, hGJ2, e2, z', rfl, hz'⟩
  subst m9
  show PQ (j_SL Ls) (j_SV xs) j_EX mm_L_law 490 [.float 5, .ref 0, .ref 46, .ref 81, .int (nI p), a5, a6, a7] [.int z'] T2 n c s K
  refine q_pop rfl rfl ?_
  refine q_goto rfl ?_
  exact hk θ T2 n c s a5 a6 a7 (gj_ab hGJ2).1 (jao_cnt hn hj k2 hGJ2 e1 e2 rfl rfl rfl rfl hJ1) (by omega) (by omega)
set_option maxHeartbeats 4000000 in
theorem k_10 (hL : Ls < 2 ^ 31) : OKJ (JAo) Ls xs K 494 := by
  intro θ S n c s p a5 a6 a7 hG hj hp hc hs hk
  have hn := gs_n hG
  obtain ⟨fs, k0, -, -, -⟩ := gs_0 hG
  obtain ⟨f, k2, hGZ⟩ := jao_gy hG hj
  have hGJ := (gz_ab hGZ).1
  refine q_aload_n rfl rfl rfl ?_
  refine q_aload_nF rfl rfl rfl ?_
  refine q_iload rfl rfl rfl ?_
  refine q_iconst rfl rfl ?_
  refine q_iadd rfl rfl (q_tn (z := nI (p + 1)) (nI_add p 1) ?_)
  refine q_ialdF rfl rfl (sc_i hp hL (by decide)) (q_tn (sc_v hp hL (by decide)) ?_)
  refine q_aload_nF rfl rfl rfl ?_
  refine q_iload rfl rfl rfl ?_
  refine q_iconst rfl rfl ?_
  refine q_iadd rfl rfl (q_tn (z := nI (p + 2)) (nI_add p 2) ?_)
  refine q_ialdF rfl rfl (sc_i hp hL (by decide)) (q_tn (sc_v hp hL (by decide)) ?_)
  refine q_cV rfl rfl (Or.inl rfl) rfl rfl rfl rfl (by omega) k0 trivial rfl (c2 := c) (s2 := s) rfl rfl rfl rfl (ro_c hn (pm_weak (q_kj wb96 [(xs (p + 1)).toInt, (xs (p + 2)).toInt] hGJ ⟨rfl, ck_oku rfl rfl, ck_oku rfl rfl, trivial⟩ (ck_en_c (fullI _).1 (fullI _).2 (ck_en_c (fullI _).1 (fullI _).2 ck_en_n)) (fun d hd => by cases hd)) (fun r S9 n9 h => rj_of rfl h)) (c_nth (gj_ab hGJ).1 (gj_ab hGJ).2.2 (gz_ab hGZ).2)) ?_
  rintro r T1 _ ⟨rfl, hGJ1, e1, hJ1, z, rfl, hz⟩
  show PQ (j_SL Ls) (j_SV xs) j_EX mm_L_law 510 [.float 5, .ref 0, .ref 46, .ref 81, .int (nI p), a5, a6, a7] [.int z] T1 n c s K
  have hn1 := gs_n (gj_ab hGJ1).1
  obtain ⟨ob, hob, -⟩ := gs_obj (gj_ab hGJ1).1 (k := 46) rfl
  refine q_aload_n rfl rfl rfl ?_
  refine q_aload_nF rfl rfl rfl ?_
  refine q_iload rfl rfl rfl ?_
  refine q_iconst rfl rfl ?_
  refine q_iadd rfl rfl (q_tn (z := nI (p + 1)) (nI_add p 1) ?_)
  refine q_ialdF rfl rfl (sc_i hp hL (by decide)) (q_tn (sc_v hp hL (by decide)) ?_)
  refine q_aload_nF rfl rfl rfl ?_
  refine q_iload rfl rfl rfl ?_
  refine q_iconst rfl rfl ?_
  refine q_iadd rfl rfl (q_tn (z := nI (p + 2)) (nI_add p 2) ?_)
  refine q_ialdF rfl rfl (sc_i hp hL (by decide)) (q_tn (sc_v hp hL (by decide)) ?_)
  refine q_cV rfl rfl (Or.inl rfl) rfl rfl rfl rfl (by omega) hob trivial rfl (c2 := c) (s2 := s) rfl rfl rfl rfl (rj_and (pm_weak (q_kj wb206 [(xs (p + 1)).toInt, (xs (p + 2)).toInt] hGJ1 ⟨rfl, ck_oku rfl rfl, ck_oku rfl rfl, trivial⟩ (ck_en_c (fullI _).1 (fullI _).2 (ck_en_c (fullI _).1 (fullI _).2 ck_en_n)) (fun d hd => by cases hd)) (fun r S9 n9 h => rj_of rfl h)) (l_nth (gj_ab hGJ1).1 (gj_ab hGJ1).2.1 (gj_ab hGJ1).2.2)) ?_
  rintro r T2 m9 ⟨en, hGJ2, e2, z', rfl, hz'⟩
  subst m9
  show PQ (j_SL Ls) (j_SV xs) j_EX mm_L_law 526 [.float 5, .ref 0, .ref 46, .ref 81, .int (nI p), a5, a6, a7] [.int z', .int z] T2 n c s K
  refine q_iceq rfl rfl (fun _ => ?_) (fun c9 => absurd (hz.trans hz'.symm) c9)
  exact hk θ T2 n c s a5 a6 a7 (gj_ab hGJ2).1 (jao_cnt hn hj k2 hGJ2 e1 e2 rfl rfl rfl rfl hJ1) (by omega) (by omega)
set_option maxHeartbeats 4000000 in
theorem k_5 (hL : Ls < 2 ^ 31) : OKJ JAo Ls xs K 369 := by
  intro θ S n c s p a5 a6 a7 hG0 hj hp hc hs hk
  have hn := gs_n hG0
  obtain ⟨f, k2, hG⟩ := jao_gy hG0 hj
  refine q_aload_n rfl rfl rfl ?_
  obtain ⟨ob0, hob0, -⟩ := gs_obj (gj_ab (gz_ab hG).1).1 (k := 0) rfl
  have hn0 := gs_n (gj_ab (gz_ab hG).1).1
  refine q_cV rfl rfl (Or.inl rfl) rfl rfl rfl rfl (by omega) hob0 trivial rfl (c2 := c) (s2 := s) rfl rfl rfl rfl (pm_weak (q_kz we31 [] hG ⟨rfl, trivial⟩ ck_en_n (fun d hd => by cases hd)) (fun r S9 n9 h => rz_of rfl h)) ?_
  rintro r T1 _ ⟨rfl, ⟨zT1, rfl⟩, gT1, eT1⟩
  show PQ (j_SL Ls) (j_SV xs) j_EX mm_L_law 373 [.float 5, .ref 0, .ref 46, .ref 81, .int (nI p), a5, a6, a7] [.int zT1] T1 n c s K
  refine q_pop rfl rfl ?_
  refine q_aload_n rfl rfl rfl ?_
  obtain ⟨ob1, hob1, -⟩ := gs_obj (gj_ab (gz_ab gT1).1).1 (k := 46) rfl
  have hn1 := gs_n (gj_ab (gz_ab gT1).1).1
  refine q_cV rfl rfl (Or.inl rfl) rfl rfl rfl rfl (by omega) hob1 trivial rfl (c2 := c) (s2 := s) rfl rfl rfl rfl (pm_weak (q_kz we181 [] gT1 ⟨rfl, trivial⟩ ck_en_n (fun d hd => by cases hd)) (fun r S9 n9 h => rz_of rfl h)) ?_
  rintro r T2 _ ⟨rfl, ⟨zT2, rfl⟩, gT2, eT2⟩
  show PQ (j_SL Ls) (j_SV xs) j_EX mm_L_law 378 [.float 5, .ref 0, .ref 46, .ref 81, .int (nI p), a5, a6, a7] [.int zT2] T2 n c s K
  refine q_pop rfl rfl ?_
  refine q_goto rfl ?_
  exact hk θ T2 n _ _ _ _ _ (gj_ab (gz_ab gT2).1).1 (jao_back hn hj k2 gT2 eT1 eT2 rfl rfl) (by omega) (by omega)
set_option maxHeartbeats 4000000 in
theorem k_6 (hL : Ls < 2 ^ 31) : OKJ JAo Ls xs K 382 := by
  intro θ S n c s p a5 a6 a7 hG0 hj hp hc hs hk
  have hn := gs_n hG0
  obtain ⟨f, k2, hG⟩ := jao_gy hG0 hj
  refine q_aload_n rfl rfl rfl ?_
  refine q_aload_nF rfl rfl rfl ?_
  refine q_iload rfl rfl rfl ?_
  refine q_iconst rfl rfl ?_
  refine q_iadd rfl rfl (q_tn (z := nI (p + 1)) (nI_add p 1) ?_)
  refine q_ialdF rfl rfl (sc_i hp hL (by decide)) (q_tn (sc_v hp hL (by decide)) ?_)
  obtain ⟨ob0, hob0, -⟩ := gs_obj (gj_ab (gz_ab hG).1).1 (k := 0) rfl
  have hn0 := gs_n (gj_ab (gz_ab hG).1).1
  refine q_cV rfl rfl (Or.inl rfl) rfl rfl rfl rfl (by omega) hob0 trivial rfl (c2 := c) (s2 := s) rfl rfl rfl rfl (pm_weak (q_kz we58 [((xs (p + 1))).toInt] hG ⟨rfl, ck_oku rfl rfl, trivial⟩ (ck_en_c (fullI _).1 (fullI _).2 ck_en_n) (fun d hd => by cases hd)) (fun r S9 n9 h => rz_of rfl h)) ?_
  rintro r T1 _ ⟨rfl, ⟨zT1, rfl⟩, gT1, eT1⟩
  show PQ (j_SL Ls) (j_SV xs) j_EX mm_L_law 392 [.float 5, .ref 0, .ref 46, .ref 81, .int (nI p), a5, a6, a7] [.int zT1] T1 n c s K
  refine q_pop rfl rfl ?_
  refine q_aload_n rfl rfl rfl ?_
  refine q_aload_nF rfl rfl rfl ?_
  refine q_iload rfl rfl rfl ?_
  refine q_iconst rfl rfl ?_
  refine q_iadd rfl rfl (q_tn (z := nI (p + 1)) (nI_add p 1) ?_)
  refine q_ialdF rfl rfl (sc_i hp hL (by decide)) (q_tn (sc_v hp hL (by decide)) ?_)
  obtain ⟨ob1, hob1, -⟩ := gs_obj (gj_ab (gz_ab gT1).1).1 (k := 46) rfl
  have hn1 := gs_n (gj_ab (gz_ab gT1).1).1
  refine q_cV rfl rfl (Or.inl rfl) rfl rfl rfl rfl (by omega) hob1 trivial rfl (c2 := c) (s2 := s) rfl rfl rfl rfl (pm_weak (q_kz we194 [((xs (p + 1))).toInt] gT1 ⟨rfl, ck_oku rfl rfl, trivial⟩ (ck_en_c (fullI _).1 (fullI _).2 ck_en_n) (fun d hd => by cases hd)) (fun r S9 n9 h => rz_of rfl h)) ?_
  rintro r T2 _ ⟨rfl, ⟨zT2, rfl⟩, gT2, eT2⟩
  show PQ (j_SL Ls) (j_SV xs) j_EX mm_L_law 403 [.float 5, .ref 0, .ref 46, .ref 81, .int (nI p), a5, a6, a7] [.int zT2] T2 n c s K
  refine q_pop rfl rfl ?_
  refine q_goto rfl ?_
  exact hk θ T2 n _ _ _ _ _ (gj_ab (gz_ab gT2).1).1 (jao_back hn hj k2 gT2 eT1 eT2 rfl rfl) (by omega) (by omega)
set_option maxHeartbeats 4000000 in
theorem k_8 (hL : Ls < 2 ^ 31) : OKJ JAo Ls xs K 444 := by
  intro θ S n c s p a5 a6 a7 hG0 hj hp hc hs hk
  have hn := gs_n hG0
  obtain ⟨f, k2, hG⟩ := jao_gy hG0 hj
  refine q_aload_n rfl rfl rfl ?_
  refine q_aload_nF rfl rfl rfl ?_
  refine q_iload rfl rfl rfl ?_
  refine q_iconst rfl rfl ?_
  refine q_iadd rfl rfl (q_tn (z := nI (p + 1)) (nI_add p 1) ?_)
  refine q_ialdF rfl rfl (sc_i hp hL (by decide)) (q_tn (sc_v hp hL (by decide)) ?_)
  obtain ⟨ob0, hob0, -⟩ := gs_obj (gj_ab (gz_ab hG).1).1 (k := 0) rfl
  have hn0 := gs_n (gj_ab (gz_ab hG).1).1
  refine q_cV rfl rfl (Or.inl rfl) rfl rfl rfl rfl (by omega) hob0 trivial rfl (c2 := c) (s2 := s) rfl rfl rfl rfl (pm_weak (q_kz we82 [((xs (p + 1))).toInt] hG ⟨rfl, ck_oku rfl rfl, trivial⟩ (ck_en_c (fullI _).1 (fullI _).2 ck_en_n) (fun d hd => by cases hd)) (fun r S9 n9 h => rz_of rfl h)) ?_
  rintro r T1 _ ⟨rfl, ⟨zT1, rfl⟩, gT1, eT1⟩
  show PQ (j_SL Ls) (j_SV xs) j_EX mm_L_law 454 [.float 5, .ref 0, .ref 46, .ref 81, .int (nI p), a5, a6, a7] [.int zT1] T1 n c s K
  refine q_pop rfl rfl ?_
  refine q_aload_n rfl rfl rfl ?_
  refine q_aload_nF rfl rfl rfl ?_
  refine q_iload rfl rfl rfl ?_
  refine q_iconst rfl rfl ?_
  refine q_iadd rfl rfl (q_tn (z := nI (p + 1)) (nI_add p 1) ?_)
  refine q_ialdF rfl rfl (sc_i hp hL (by decide)) (q_tn (sc_v hp hL (by decide)) ?_)
  obtain ⟨ob1, hob1, -⟩ := gs_obj (gj_ab (gz_ab gT1).1).1 (k := 46) rfl
  have hn1 := gs_n (gj_ab (gz_ab gT1).1).1
  refine q_cV rfl rfl (Or.inl rfl) rfl rfl rfl rfl (by omega) hob1 trivial rfl (c2 := c) (s2 := s) rfl rfl rfl rfl (pm_weak (q_kz we202 [((xs (p + 1))).toInt] gT1 ⟨rfl, ck_oku rfl rfl, trivial⟩ (ck_en_c (fullI _).1 (fullI _).2 ck_en_n) (fun d hd => by cases hd)) (fun r S9 n9 h => rz_of rfl h)) ?_
  rintro r T2 _ ⟨rfl, ⟨zT2, rfl⟩, gT2, eT2⟩
  show PQ (j_SL Ls) (j_SV xs) j_EX mm_L_law 465 [.float 5, .ref 0, .ref 46, .ref 81, .int (nI p), a5, a6, a7] [.int zT2] T2 n c s K
  refine q_pop rfl rfl ?_
  refine q_goto rfl ?_
  exact hk θ T2 n _ _ _ _ _ (gj_ab (gz_ab gT2).1).1 (jao_back hn hj k2 gT2 eT1 eT2 rfl rfl) (by omega) (by omega)
set_option maxHeartbeats 4000000 in
theorem k_11 (hL : Ls < 2 ^ 31) : OKJ JAo Ls xs K 531 := by
  intro θ S n c s p a5 a6 a7 hG0 hj hp hc hs hk
  have hn := gs_n hG0
  obtain ⟨f, k2, hG⟩ := jao_gy hG0 hj
  refine q_aload_n rfl rfl rfl ?_
  refine q_aload_nF rfl rfl rfl ?_
  refine q_iload rfl rfl rfl ?_
  refine q_iconst rfl rfl ?_
  refine q_iadd rfl rfl (q_tn (z := nI (p + 1)) (nI_add p 1) ?_)
  refine q_ialdF rfl rfl (sc_i hp hL (by decide)) (q_tn (sc_v hp hL (by decide)) ?_)
  obtain ⟨ob0, hob0, -⟩ := gs_obj (gj_ab (gz_ab hG).1).1 (k := 0) rfl
  have hn0 := gs_n (gj_ab (gz_ab hG).1).1
  refine q_cV rfl rfl (Or.inl rfl) rfl rfl rfl rfl (by omega) hob0 trivial rfl (c2 := c) (s2 := s) rfl rfl rfl rfl (pm_weak (q_kz we99 [((xs (p + 1))).toInt] hG ⟨rfl, ck_oku rfl rfl, trivial⟩ (ck_en_c (fullI _).1 (fullI _).2 ck_en_n) (fun d hd => by cases hd)) (fun r S9 n9 h => rz_of rfl h)) ?_
  rintro r T1 _ ⟨rfl, ⟨zT1, rfl⟩, gT1, eT1⟩
  show PQ (j_SL Ls) (j_SV xs) j_EX mm_L_law 541 [.float 5, .ref 0, .ref 46, .ref 81, .int (nI p), a5, a6, a7] [.int zT1] T1 n c s K
  refine q_pop rfl rfl ?_
  refine q_aload_n rfl rfl rfl ?_
  refine q_aload_nF rfl rfl rfl ?_
  refine q_iload rfl rfl rfl ?_
  refine q_iconst rfl rfl ?_
  refine q_iadd rfl rfl (q_tn (z := nI (p + 1)) (nI_add p 1) ?_)
  refine q_ialdF rfl rfl (sc_i hp hL (by decide)) (q_tn (sc_v hp hL (by decide)) ?_)
  obtain ⟨ob1, hob1, -⟩ := gs_obj (gj_ab (gz_ab gT1).1).1 (k := 46) rfl
  have hn1 := gs_n (gj_ab (gz_ab gT1).1).1
  refine q_cV rfl rfl (Or.inl rfl) rfl rfl rfl rfl (by omega) hob1 trivial rfl (c2 := c) (s2 := s) rfl rfl rfl rfl (pm_weak (q_kz we208 [((xs (p + 1))).toInt] gT1 ⟨rfl, ck_oku rfl rfl, trivial⟩ (ck_en_c (fullI _).1 (fullI _).2 ck_en_n) (fun d hd => by cases hd)) (fun r S9 n9 h => rz_of rfl h)) ?_
  rintro r T2 _ ⟨rfl, ⟨zT2, rfl⟩, gT2, eT2⟩
  show PQ (j_SL Ls) (j_SV xs) j_EX mm_L_law 552 [.float 5, .ref 0, .ref 46, .ref 81, .int (nI p), a5, a6, a7] [.int zT2] T2 n c s K
  refine q_pop rfl rfl ?_
  refine q_goto rfl ?_
  exact hk θ T2 n _ _ _ _ _ (gj_ab (gz_ab gT2).1).1 (jao_back hn hj k2 gT2 eT1 eT2 rfl rfl) (by omega) (by omega)
set_option maxHeartbeats 4000000 in
theorem k_12 (hL : Ls < 2 ^ 31) : OKJ JAo Ls xs K 556 := by
  intro θ S n c s p a5 a6 a7 hG0 hj hp hc hs hk
  have hn := gs_n hG0
  obtain ⟨f, k2, hG⟩ := jao_gy hG0 hj
  refine q_aload_n rfl rfl rfl ?_
  refine q_aload_nF rfl rfl rfl ?_
  refine q_iload rfl rfl rfl ?_
  refine q_iconst rfl rfl ?_
  refine q_iadd rfl rfl (q_tn (z := nI (p + 1)) (nI_add p 1) ?_)
  refine q_ialdF rfl rfl (sc_i hp hL (by decide)) (q_tn (sc_v hp hL (by decide)) ?_)
  refine q_aload_nF rfl rfl rfl ?_
  refine q_iload rfl rfl rfl ?_
  refine q_iconst rfl rfl ?_
  refine q_iadd rfl rfl (q_tn (z := nI (p + 2)) (nI_add p 2) ?_)
  refine q_ialdF rfl rfl (sc_i hp hL (by decide)) (q_tn (sc_v hp hL (by decide)) ?_)
  obtain ⟨ob0, hob0, -⟩ := gs_obj (gj_ab (gz_ab hG).1).1 (k := 0) rfl
  have hn0 := gs_n (gj_ab (gz_ab hG).1).1
  refine q_cV rfl rfl (Or.inl rfl) rfl rfl rfl rfl (by omega) hob0 trivial rfl (c2 := c) (s2 := s) rfl rfl rfl rfl (pm_weak (q_kz we101 [((xs (p + 1))).toInt, ((xs (p + 2))).toInt] hG ⟨rfl, ck_oku rfl rfl, ck_oku rfl rfl, trivial⟩ (ck_en_c (fullI _).1 (fullI _).2 (ck_en_c (fullI _).1 (fullI _).2 ck_en_n)) (fun d hd => by cases hd)) (fun r S9 n9 h => rz_of rfl h)) ?_
  rintro r T1 _ ⟨rfl, ⟨zT1, rfl⟩, gT1, eT1⟩
  show PQ (j_SL Ls) (j_SV xs) j_EX mm_L_law 572 [.float 5, .ref 0, .ref 46, .ref 81, .int (nI p), a5, a6, a7] [.int zT1] T1 n c s K
  refine q_pop rfl rfl ?_
  refine q_aload_n rfl rfl rfl ?_
  refine q_aload_nF rfl rfl rfl ?_
  refine q_iload rfl rfl rfl ?_
  refine q_iconst rfl rfl ?_
  refine q_iadd rfl rfl (q_tn (z := nI (p + 1)) (nI_add p 1) ?_)
  refine q_ialdF rfl rfl (sc_i hp hL (by decide)) (q_tn (sc_v hp hL (by decide)) ?_)
  refine q_aload_nF rfl rfl rfl ?_
  refine q_iload rfl rfl rfl ?_
  refine q_iconst rfl rfl ?_
  refine q_iadd rfl rfl (q_tn (z := nI (p + 2)) (nI_add p 2) ?_)
  refine q_ialdF rfl rfl (sc_i hp hL (by decide)) (q_tn (sc_v hp hL (by decide)) ?_)
  obtain ⟨ob1, hob1, -⟩ := gs_obj (gj_ab (gz_ab gT1).1).1 (k := 46) rfl
  have hn1 := gs_n (gj_ab (gz_ab gT1).1).1
  refine q_cV rfl rfl (Or.inl rfl) rfl rfl rfl rfl (by omega) hob1 trivial rfl (c2 := c) (s2 := s) rfl rfl rfl rfl (pm_weak (q_kz we_step0 [((xs (p + 1))).toInt, ((xs (p + 2))).toInt] gT1 ⟨rfl, ck_oku rfl rfl, ck_oku rfl rfl, trivial⟩ (ck_en_c (fullI _).1 (fullI _).2 (ck_en_c (fullI _).1 (fullI _).2 ck_en_n)) (fun d hd => by cases hd)) (fun r S9 n9 h => rz_of rfl h)) ?_
  rintro r T2 _ ⟨rfl, ⟨zT2, rfl⟩, gT2, eT2⟩
  show PQ (j_SL Ls) (j_SV xs) j_EX mm_L_law 589 [.float 5, .ref 0, .ref 46, .ref 81, .int (nI p), a5, a6, a7] [.int zT2] T2 n c s K
  refine q_pop rfl rfl ?_
  refine q_goto rfl ?_
  exact hk θ T2 n _ _ _ _ _ (gj_ab (gz_ab gT2).1).1 (jao_back hn hj k2 gT2 eT1 eT2 rfl rfl) (by omega) (by omega)
set_option maxHeartbeats 4000000 in
theorem k_13 (hL : Ls < 2 ^ 31) : OKJ JAo Ls xs K 593 := by
  intro θ S n c s p a5 a6 a7 hG0 hj hp hc hs hk
  have hn := gs_n hG0
  obtain ⟨f, k2, hG⟩ := jao_gy hG0 hj
  refine q_aload_n rfl rfl rfl ?_
  refine q_aload_nF rfl rfl rfl ?_
  refine q_iload rfl rfl rfl ?_
  refine q_iconst rfl rfl ?_
  refine q_iadd rfl rfl (q_tn (z := nI (p + 1)) (nI_add p 1) ?_)
  refine q_ialdF rfl rfl (sc_i hp hL (by decide)) (q_tn (sc_v hp hL (by decide)) ?_)
  obtain ⟨ob0, hob0, -⟩ := gs_obj (gj_ab (gz_ab hG).1).1 (k := 0) rfl
  have hn0 := gs_n (gj_ab (gz_ab hG).1).1
  refine q_cV rfl rfl (Or.inl rfl) rfl rfl rfl rfl (by omega) hob0 trivial rfl (c2 := c) (s2 := s) rfl rfl rfl rfl (pm_weak (q_kz we103 [((xs (p + 1))).toInt] hG ⟨rfl, ck_oku rfl rfl, trivial⟩ (ck_en_c (fullI _).1 (fullI _).2 ck_en_n) (fun d hd => by cases hd)) (fun r S9 n9 h => rz_of rfl h)) ?_
  rintro r T1 _ ⟨rfl, ⟨zT1, rfl⟩, gT1, eT1⟩
  show PQ (j_SL Ls) (j_SV xs) j_EX mm_L_law 603 [.float 5, .ref 0, .ref 46, .ref 81, .int (nI p), a5, a6, a7] [.int zT1] T1 n c s K
  refine q_pop rfl rfl ?_
  refine q_aload_n rfl rfl rfl ?_
  refine q_aload_nF rfl rfl rfl ?_
  refine q_iload rfl rfl rfl ?_
  refine q_iconst rfl rfl ?_
  refine q_iadd rfl rfl (q_tn (z := nI (p + 1)) (nI_add p 1) ?_)
  refine q_ialdF rfl rfl (sc_i hp hL (by decide)) (q_tn (sc_v hp hL (by decide)) ?_)
  obtain ⟨ob1, hob1, -⟩ := gs_obj (gj_ab (gz_ab gT1).1).1 (k := 46) rfl
  have hn1 := gs_n (gj_ab (gz_ab gT1).1).1
  refine q_cV rfl rfl (Or.inl rfl) rfl rfl rfl rfl (by omega) hob1 trivial rfl (c2 := c) (s2 := s) rfl rfl rfl rfl (pm_weak (q_kz we209 [((xs (p + 1))).toInt] gT1 ⟨rfl, ck_oku rfl rfl, trivial⟩ (ck_en_c (fullI _).1 (fullI _).2 ck_en_n) (fun d hd => by cases hd)) (fun r S9 n9 h => rz_of rfl h)) ?_
  rintro r T2 _ ⟨rfl, ⟨zT2, rfl⟩, gT2, eT2⟩
  show PQ (j_SL Ls) (j_SV xs) j_EX mm_L_law 614 [.float 5, .ref 0, .ref 46, .ref 81, .int (nI p), a5, a6, a7] [.int zT2] T2 n c s K
  refine q_pop rfl rfl ?_
  refine q_goto rfl ?_
  exact hk θ T2 n _ _ _ _ _ (gj_ab (gz_ab gT2).1).1 (jao_back hn hj k2 gT2 eT1 eT2 rfl rfl) (by omega) (by omega)
set_option maxHeartbeats 4000000 in
theorem k_14 (hL : Ls < 2 ^ 31) : OKJ JAo Ls xs K 618 := by
  intro θ S n c s p a5 a6 a7 hG0 hj hp hc hs hk
  have hn := gs_n hG0
  obtain ⟨f, k2, hG⟩ := jao_gy hG0 hj
  refine q_aload_n rfl rfl rfl ?_
  refine q_aload_nF rfl rfl rfl ?_
  refine q_iload rfl rfl rfl ?_
  refine q_iconst rfl rfl ?_
  refine q_iadd rfl rfl (q_tn (z := nI (p + 1)) (nI_add p 1) ?_)
  refine q_ialdF rfl rfl (sc_i hp hL (by decide)) (q_tn (sc_v hp hL (by decide)) ?_)
  refine q_aload_nF rfl rfl rfl ?_
  refine q_iload rfl rfl rfl ?_
  refine q_iconst rfl rfl ?_
  refine q_iadd rfl rfl (q_tn (z := nI (p + 2)) (nI_add p 2) ?_)
  refine q_ialdF rfl rfl (sc_i hp hL (by decide)) (q_tn (sc_v hp hL (by decide)) ?_)
  obtain ⟨ob0, hob0, -⟩ := gs_obj (gj_ab (gz_ab hG).1).1 (k := 0) rfl
  have hn0 := gs_n (gj_ab (gz_ab hG).1).1
  refine q_cV rfl rfl (Or.inl rfl) rfl rfl rfl rfl (by omega) hob0 trivial rfl (c2 := c) (s2 := s) rfl rfl rfl rfl (pm_weak (q_kz we107 [((xs (p + 1))).toInt, ((xs (p + 2))).toInt] hG ⟨rfl, ck_oku rfl rfl, ck_oku rfl rfl, trivial⟩ (ck_en_c (fullI _).1 (fullI _).2 (ck_en_c (fullI _).1 (fullI _).2 ck_en_n)) (fun d hd => by cases hd)) (fun r S9 n9 h => rz_of rfl h)) ?_
  rintro r T1 _ ⟨rfl, ⟨zT1, rfl⟩, gT1, eT1⟩
  show PQ (j_SL Ls) (j_SV xs) j_EX mm_L_law 634 [.float 5, .ref 0, .ref 46, .ref 81, .int (nI p), a5, a6, a7] [.int zT1] T1 n c s K
  refine q_pop rfl rfl ?_
  refine q_aload_n rfl rfl rfl ?_
  refine q_aload_nF rfl rfl rfl ?_
  refine q_iload rfl rfl rfl ?_
  refine q_iconst rfl rfl ?_
  refine q_iadd rfl rfl (q_tn (z := nI (p + 1)) (nI_add p 1) ?_)
  refine q_ialdF rfl rfl (sc_i hp hL (by decide)) (q_tn (sc_v hp hL (by decide)) ?_)
  refine q_aload_nF rfl rfl rfl ?_
  refine q_iload rfl rfl rfl ?_
  refine q_iconst rfl rfl ?_
  refine q_iadd rfl rfl (q_tn (z := nI (p + 2)) (nI_add p 2) ?_)
  refine q_ialdF rfl rfl (sc_i hp hL (by decide)) (q_tn (sc_v hp hL (by decide)) ?_)
  obtain ⟨ob1, hob1, -⟩ := gs_obj (gj_ab (gz_ab gT1).1).1 (k := 46) rfl
  have hn1 := gs_n (gj_ab (gz_ab gT1).1).1
  refine q_cV rfl rfl (Or.inl rfl) rfl rfl rfl rfl (by omega) hob1 trivial rfl (c2 := c) (s2 := s) rfl rfl rfl rfl (pm_weak (q_kz we211 [((xs (p + 1))).toInt, ((xs (p + 2))).toInt] gT1 ⟨rfl, ck_oku rfl rfl, ck_oku rfl rfl, trivial⟩ (ck_en_c (fullI _).1 (fullI _).2 (ck_en_c (fullI _).1 (fullI _).2 ck_en_n)) (fun d hd => by cases hd)) (fun r S9 n9 h => rz_of rfl h)) ?_
  rintro r T2 _ ⟨rfl, ⟨zT2, rfl⟩, gT2, eT2⟩
  show PQ (j_SL Ls) (j_SV xs) j_EX mm_L_law 651 [.float 5, .ref 0, .ref 46, .ref 81, .int (nI p), a5, a6, a7] [.int zT2] T2 n c s K
  refine q_pop rfl rfl ?_
  refine q_goto rfl ?_
  exact hk θ T2 n _ _ _ _ _ (gj_ab (gz_ab gT2).1).1 (jao_back hn hj k2 gT2 eT1 eT2 rfl rfl) (by omega) (by omega)
set_option maxHeartbeats 4000000 in
theorem k_15 (hL : Ls < 2 ^ 31) : OKJ JAo Ls xs K 655 := by
  intro θ S n c s p a5 a6 a7 hG0 hj hp hc hs hk
  have hn := gs_n hG0
  obtain ⟨f, k2, hG⟩ := jao_gy hG0 hj
  refine q_aload_n rfl rfl rfl ?_
  refine q_aload_nF rfl rfl rfl ?_
  refine q_iload rfl rfl rfl ?_
  refine q_iconst rfl rfl ?_
  refine q_iadd rfl rfl (q_tn (z := nI (p + 1)) (nI_add p 1) ?_)
  refine q_ialdF rfl rfl (sc_i hp hL (by decide)) (q_tn (sc_v hp hL (by decide)) ?_)
  refine q_aload_nF rfl rfl rfl ?_
  refine q_iload rfl rfl rfl ?_
  refine q_iconst rfl rfl ?_
  refine q_iadd rfl rfl (q_tn (z := nI (p + 2)) (nI_add p 2) ?_)
  refine q_ialdF rfl rfl (sc_i hp hL (by decide)) (q_tn (sc_v hp hL (by decide)) ?_)
  refine q_aload_nF rfl rfl rfl ?_
  refine q_iload rfl rfl rfl ?_
  refine q_iconst rfl rfl ?_
  refine q_iadd rfl rfl (q_tn (z := nI (p + 3)) (nI_add p 3) ?_)
  refine q_ialdF rfl rfl (sc_i hp hL (by decide)) (q_tn (sc_v hp hL (by decide)) ?_)
  refine q_aload_nF rfl rfl rfl ?_
  refine q_iload rfl rfl rfl ?_
  refine q_iconst rfl rfl ?_
  refine q_iadd rfl rfl (q_tn (z := nI (p + 4)) (nI_add p 4) ?_)
  refine q_ialdF rfl rfl (sc_i hp hL (by decide)) (q_tn (sc_v hp hL (by decide)) ?_)
  obtain ⟨ob0, hob0, -⟩ := gs_obj (gj_ab (gz_ab hG).1).1 (k := 0) rfl
  have hn0 := gs_n (gj_ab (gz_ab hG).1).1
  refine q_cV rfl rfl (Or.inl rfl) rfl rfl rfl rfl (by omega) hob0 trivial rfl (c2 := c) (s2 := s) rfl rfl rfl rfl (pm_weak (q_kz we108 [((xs (p + 1))).toInt, ((xs (p + 2))).toInt, ((xs (p + 3))).toInt, ((xs (p + 4))).toInt] hG ⟨rfl, ck_oku rfl rfl, ck_oku rfl rfl, ck_oku rfl rfl, ck_oku rfl rfl, trivial⟩ (ck_en_c (fullI _).1 (fullI _).2 (ck_en_c (fullI _).1 (fullI _).2 (ck_en_c (fullI _).1 (fullI _).2 (ck_en_c (fullI _).1 (fullI _).2 ck_en_n)))) (fun d hd => by cases hd)) (fun r S9 n9 h => rz_of rfl h)) ?_
  rintro r T1 _ ⟨rfl, ⟨zT1, rfl⟩, gT1, eT1⟩
  show PQ (j_SL Ls) (j_SV xs) j_EX mm_L_law 683 [.float 5, .ref 0, .ref 46, .ref 81, .int (nI p), a5, a6, a7] [.int zT1] T1 n c s K
  refine q_pop rfl rfl ?_
  refine q_aload_n rfl rfl rfl ?_
  refine q_aload_nF rfl rfl rfl ?_
  refine q_iload rfl rfl rfl ?_
  refine q_iconst rfl rfl ?_
  refine q_iadd rfl rfl (q_tn (z := nI (p + 1)) (nI_add p 1) ?_)
  refine q_ialdF rfl rfl (sc_i hp hL (by decide)) (q_tn (sc_v hp hL (by decide)) ?_)
  refine q_aload_nF rfl rfl rfl ?_
  refine q_iload rfl rfl rfl ?_
  refine q_iconst rfl rfl ?_
  refine q_iadd rfl rfl (q_tn (z := nI (p + 2)) (nI_add p 2) ?_)
  refine q_ialdF rfl rfl (sc_i hp hL (by decide)) (q_tn (sc_v hp hL (by decide)) ?_)
  refine q_aload_nF rfl rfl rfl ?_
  refine q_iload rfl rfl rfl ?_
  refine q_iconst rfl rfl ?_
  refine q_iadd rfl rfl (q_tn (z := nI (p + 3)) (nI_add p 3) ?_)
  refine q_ialdF rfl rfl (sc_i hp hL (by decide)) (q_tn (sc_v hp hL (by decide)) ?_)
  refine q_aload_nF rfl rfl rfl ?_
  refine q_iload rfl rfl rfl ?_
  refine q_iconst rfl rfl ?_
  refine q_iadd rfl rfl (q_tn (z := nI (p + 4)) (nI_add p 4) ?_)
  refine q_ialdF rfl rfl (sc_i hp hL (by decide)) (q_tn (sc_v hp hL (by decide)) ?_)
  obtain ⟨ob1, hob1, -⟩ := gs_obj (gj_ab (gz_ab gT1).1).1 (k := 46) rfl
  have hn1 := gs_n (gj_ab (gz_ab gT1).1).1
  refine q_cV rfl rfl (Or.inl rfl) rfl rfl rfl rfl (by omega) hob1 trivial rfl (c2 := c) (s2 := s) rfl rfl rfl rfl (pm_weak (q_kz we212 [((xs (p + 1))).toInt, ((xs (p + 2))).toInt, ((xs (p + 3))).toInt, ((xs (p + 4))).toInt] gT1 ⟨rfl, ck_oku rfl rfl, ck_oku rfl rfl, ck_oku rfl rfl, ck_oku rfl rfl, trivial⟩ (ck_en_c (fullI _).1 (fullI _).2 (ck_en_c (fullI _).1 (fullI _).2 (ck_en_c (fullI _).1 (fullI _).2 (ck_en_c (fullI _).1 (fullI _).2 ck_en_n)))) (fun d hd => by cases hd)) (fun r S9 n9 h => rz_of rfl h)) ?_
  rintro r T2 _ ⟨rfl, ⟨zT2, rfl⟩, gT2, eT2⟩
  show PQ (j_SL Ls) (j_SV xs) j_EX mm_L_law 712 [.float 5, .ref 0, .ref 46, .ref 81, .int (nI p), a5, a6, a7] [.int zT2] T2 n c s K
  refine q_pop rfl rfl ?_
  refine q_goto rfl ?_
  exact hk θ T2 n _ _ _ _ _ (gj_ab (gz_ab gT2).1).1 (jao_back hn hj k2 gT2 eT1 eT2 rfl rfl) (by omega) (by omega)
set_option maxHeartbeats 4000000 in
theorem k_16 (hL : Ls < 2 ^ 31) : OKJ JAo Ls xs K 716 := by
  intro θ S n c s p a5 a6 a7 hG0 hj hp hc hs hk
  have hn := gs_n hG0
  obtain ⟨f, k2, hG⟩ := jao_gy hG0 hj
  refine q_aload_n rfl rfl rfl ?_
  refine q_aload_nF rfl rfl rfl ?_
  refine q_iload rfl rfl rfl ?_
  refine q_iconst rfl rfl ?_
  refine q_iadd rfl rfl (q_tn (z := nI (p + 1)) (nI_add p 1) ?_)
  refine q_ialdF rfl rfl (sc_i hp hL (by decide)) (q_tn (sc_v hp hL (by decide)) ?_)
  refine q_aload_nF rfl rfl rfl ?_
  refine q_iload rfl rfl rfl ?_
  refine q_iconst rfl rfl ?_
  refine q_iadd rfl rfl (q_tn (z := nI (p + 2)) (nI_add p 2) ?_)
  refine q_ialdF rfl rfl (sc_i hp hL (by decide)) (q_tn (sc_v hp hL (by decide)) ?_)
  refine q_aload_nF rfl rfl rfl ?_
  refine q_iload rfl rfl rfl ?_
  refine q_iconst rfl rfl ?_
  refine q_iadd rfl rfl (q_tn (z := nI (p + 3)) (nI_add p 3) ?_)
  refine q_ialdF rfl rfl (sc_i hp hL (by decide)) (q_tn (sc_v hp hL (by decide)) ?_)
  obtain ⟨ob0, hob0, -⟩ := gs_obj (gj_ab (gz_ab hG).1).1 (k := 0) rfl
  have hn0 := gs_n (gj_ab (gz_ab hG).1).1
  refine q_cV rfl rfl (Or.inl rfl) rfl rfl rfl rfl (by omega) hob0 trivial rfl (c2 := c) (s2 := s) rfl rfl rfl rfl (pm_weak (q_kz we110 [((xs (p + 1))).toInt, ((xs (p + 2))).toInt, ((xs (p + 3))).toInt] hG ⟨rfl, ck_oku rfl rfl, ck_oku rfl rfl, ck_oku rfl rfl, trivial⟩ (ck_en_c (fullI _).1 (fullI _).2 (ck_en_c (fullI _).1 (fullI _).2 (ck_en_c (fullI _).1 (fullI _).2 ck_en_n))) (fun d hd => by cases hd)) (fun r S9 n9 h => rz_of rfl h)) ?_
  rintro r T1 _ ⟨rfl, ⟨zT1, rfl⟩, gT1, eT1⟩
  show PQ (j_SL Ls) (j_SV xs) j_EX mm_L_law 738 [.float 5, .ref 0, .ref 46, .ref 81, .int (nI p), a5, a6, a7] [.int zT1] T1 n c s K
  refine q_pop rfl rfl ?_
  refine q_aload_n rfl rfl rfl ?_
  refine q_aload_nF rfl rfl rfl ?_
  refine q_iload rfl rfl rfl ?_
  refine q_iconst rfl rfl ?_
  refine q_iadd rfl rfl (q_tn (z := nI (p + 1)) (nI_add p 1) ?_)
  refine q_ialdF rfl rfl (sc_i hp hL (by decide)) (q_tn (sc_v hp hL (by decide)) ?_)
  refine q_aload_nF rfl rfl rfl ?_
  refine q_iload rfl rfl rfl ?_
  refine q_iconst rfl rfl ?_
  refine q_iadd rfl rfl (q_tn (z := nI (p + 2)) (nI_add p 2) ?_)
  refine q_ialdF rfl rfl (sc_i hp hL (by decide)) (q_tn (sc_v hp hL (by decide)) ?_)
  refine q_aload_nF rfl rfl rfl ?_
  refine q_iload rfl rfl rfl ?_
  refine q_iconst rfl rfl ?_
  refine q_iadd rfl rfl (q_tn (z := nI (p + 3)) (nI_add p 3) ?_)
  refine q_ialdF rfl rfl (sc_i hp hL (by decide)) (q_tn (sc_v hp hL (by decide)) ?_)
  obtain ⟨ob1, hob1, -⟩ := gs_obj (gj_ab (gz_ab gT1).1).1 (k := 46) rfl
  have hn1 := gs_n (gj_ab (gz_ab gT1).1).1
  refine q_cV rfl rfl (Or.inl rfl) rfl rfl rfl rfl (by omega) hob1 trivial rfl (c2 := c) (s2 := s) rfl rfl rfl rfl (pm_weak (q_kz we213 [((xs (p + 1))).toInt, ((xs (p + 2))).toInt, ((xs (p + 3))).toInt] gT1 ⟨rfl, ck_oku rfl rfl, ck_oku rfl rfl, ck_oku rfl rfl, trivial⟩ (ck_en_c (fullI _).1 (fullI _).2 (ck_en_c (fullI _).1 (fullI _).2 (ck_en_c (fullI _).1 (fullI _).2 ck_en_n))) (fun d hd => by cases hd)) (fun r S9 n9 h => rz_of rfl h)) ?_
  rintro r T2 _ ⟨rfl, ⟨zT2, rfl⟩, gT2, eT2⟩
  show PQ (j_SL Ls) (j_SV xs) j_EX mm_L_law 761 [.float 5, .ref 0, .ref 46, .ref 81, .int (nI p), a5, a6, a7] [.int zT2] T2 n c s K
  refine q_pop rfl rfl ?_
  refine q_goto rfl ?_
  exact hk θ T2 n _ _ _ _ _ (gj_ab (gz_ab gT2).1).1 (jao_back hn hj k2 gT2 eT1 eT2 rfl rfl) (by omega) (by omega)
set_option maxHeartbeats 4000000 in
theorem k_17 (hL : Ls < 2 ^ 31) : OKJ JAo Ls xs K 765 := by
  intro θ S n c s p a5 a6 a7 hG0 hj hp hc hs hk
  have hn := gs_n hG0
  obtain ⟨f, k2, hG⟩ := jao_gy hG0 hj
  refine q_aload_n rfl rfl rfl ?_
  refine q_aload_nF rfl rfl rfl ?_
  refine q_iload rfl rfl rfl ?_
  refine q_iconst rfl rfl ?_
  refine q_iadd rfl rfl (q_tn (z := nI (p + 1)) (nI_add p 1) ?_)
  refine q_ialdF rfl rfl (sc_i hp hL (by decide)) (q_tn (sc_v hp hL (by decide)) ?_)
  refine q_aload_nF rfl rfl rfl ?_
  refine q_iload rfl rfl rfl ?_
  refine q_iconst rfl rfl ?_
  refine q_iadd rfl rfl (q_tn (z := nI (p + 2)) (nI_add p 2) ?_)
  refine q_ialdF rfl rfl (sc_i hp hL (by decide)) (q_tn (sc_v hp hL (by decide)) ?_)
  refine q_aload_nF rfl rfl rfl ?_
  refine q_iload rfl rfl rfl ?_
  refine q_iconst rfl rfl ?_
  refine q_iadd rfl rfl (q_tn (z := nI (p + 3)) (nI_add p 3) ?_)
  refine q_ialdF rfl rfl (sc_i hp hL (by decide)) (q_tn (sc_v hp hL (by decide)) ?_)
  obtain ⟨ob0, hob0, -⟩ := gs_obj (gj_ab (gz_ab hG).1).1 (k := 0) rfl
  have hn0 := gs_n (gj_ab (gz_ab hG).1).1
  refine q_cV rfl rfl (Or.inl rfl) rfl rfl rfl rfl (by omega) hob0 trivial rfl (c2 := c) (s2 := s) rfl rfl rfl rfl (pm_weak (q_kz we144 [((xs (p + 1))).toInt, ((xs (p + 2))).toInt, ((xs (p + 3))).toInt] hG ⟨rfl, ck_oku rfl rfl, ck_oku rfl rfl, ck_oku rfl rfl, trivial⟩ (ck_en_c (fullI _).1 (fullI _).2 (ck_en_c (fullI _).1 (fullI _).2 (ck_en_c (fullI _).1 (fullI _).2 ck_en_n))) (fun d hd => by cases hd)) (fun r S9 n9 h => rz_of rfl h)) ?_
  rintro r T1 _ ⟨rfl, ⟨zT1, rfl⟩, gT1, eT1⟩
  show PQ (j_SL Ls) (j_SV xs) j_EX mm_L_law 787 [.float 5, .ref 0, .ref 46, .ref 81, .int (nI p), a5, a6, a7] [.int zT1] T1 n c s K
  refine q_pop rfl rfl ?_
  refine q_aload_n rfl rfl rfl ?_
  refine q_aload_nF rfl rfl rfl ?_
  refine q_iload rfl rfl rfl ?_
  refine q_iconst rfl rfl ?_
  refine q_iadd rfl rfl (q_tn (z := nI (p + 1)) (nI_add p 1) ?_)
  refine q_ialdF rfl rfl (sc_i hp hL (by decide)) (q_tn (sc_v hp hL (by decide)) ?_)
  refine q_aload_nF rfl rfl rfl ?_
  refine q_iload rfl rfl rfl ?_
  refine q_iconst rfl rfl ?_
  refine q_iadd rfl rfl (q_tn (z := nI (p + 2)) (nI_add p 2) ?_)
  refine q_ialdF rfl rfl (sc_i hp hL (by decide)) (q_tn (sc_v hp hL (by decide)) ?_)
  refine q_aload_nF rfl rfl rfl ?_
  refine q_iload rfl rfl rfl ?_
  refine q_iconst rfl rfl ?_
  refine q_iadd rfl rfl (q_tn (z := nI (p + 3)) (nI_add p 3) ?_)
  refine q_ialdF rfl rfl (sc_i hp hL (by decide)) (q_tn (sc_v hp hL (by decide)) ?_)
  obtain ⟨ob1, hob1, -⟩ := gs_obj (gj_ab (gz_ab gT1).1).1 (k := 46) rfl
  have hn1 := gs_n (gj_ab (gz_ab gT1).1).1
  refine q_cV rfl rfl (Or.inl rfl) rfl rfl rfl rfl (by omega) hob1 trivial rfl (c2 := c) (s2 := s) rfl rfl rfl rfl (pm_weak (q_kz we264 [((xs (p + 1))).toInt, ((xs (p + 2))).toInt, ((xs (p + 3))).toInt] gT1 ⟨rfl, ck_oku rfl rfl, ck_oku rfl rfl, ck_oku rfl rfl, trivial⟩ (ck_en_c (fullI _).1 (fullI _).2 (ck_en_c (fullI _).1 (fullI _).2 (ck_en_c (fullI _).1 (fullI _).2 ck_en_n))) (fun d hd => by cases hd)) (fun r S9 n9 h => rz_of rfl h)) ?_
  rintro r T2 _ ⟨rfl, ⟨zT2, rfl⟩, gT2, eT2⟩
  show PQ (j_SL Ls) (j_SV xs) j_EX mm_L_law 810 [.float 5, .ref 0, .ref 46, .ref 81, .int (nI p), a5, a6, a7] [.int zT2] T2 n c s K
  refine q_pop rfl rfl ?_
  refine q_goto rfl ?_
  exact hk θ T2 n _ _ _ _ _ (gj_ab (gz_ab gT2).1).1 (jao_back hn hj k2 gT2 eT1 eT2 rfl rfl) (by omega) (by omega)
set_option maxHeartbeats 4000000 in
theorem k_20 (hL : Ls < 2 ^ 31) : OKJ JAo Ls xs K 916 := by
  intro θ S n c s p a5 a6 a7 hG0 hj hp hc hs hk
  have hn := gs_n hG0
  obtain ⟨f, k2, hG⟩ := jao_gy hG0 hj
  refine q_aload_n rfl rfl rfl ?_
  refine q_aload_nF rfl rfl rfl ?_
  refine q_iload rfl rfl rfl ?_
  refine q_iconst rfl rfl ?_
  refine q_iadd rfl rfl (q_tn (z := nI (p + 1)) (nI_add p 1) ?_)
  refine q_ialdF rfl rfl (sc_i hp hL (by decide)) (q_tn (sc_v hp hL (by decide)) ?_)
  obtain ⟨ob0, hob0, -⟩ := gs_obj (gj_ab (gz_ab hG).1).1 (k := 0) rfl
  have hn0 := gs_n (gj_ab (gz_ab hG).1).1
  refine q_cV rfl rfl (Or.inl rfl) rfl rfl rfl rfl (by omega) hob0 trivial rfl (c2 := c) (s2 := s) rfl rfl rfl rfl (pm_weak (q_kz we154 [((xs (p + 1))).toInt] hG ⟨rfl, ck_oku rfl rfl, trivial⟩ (ck_en_c (fullI _).1 (fullI _).2 ck_en_n) (fun d hd => by cases hd)) (fun r S9 n9 h => rz_of rfl h)) ?_
  rintro r T1 _ ⟨rfl, ⟨zT1, rfl⟩, gT1, eT1⟩
  show PQ (j_SL Ls) (j_SV xs) j_EX mm_L_law 926 [.float 5, .ref 0, .ref 46, .ref 81, .int (nI p), a5, a6, a7] [.int zT1] T1 n c s K
  refine q_pop rfl rfl ?_
  refine q_aload_n rfl rfl rfl ?_
  refine q_aload_nF rfl rfl rfl ?_
  refine q_iload rfl rfl rfl ?_
  refine q_iconst rfl rfl ?_
  refine q_iadd rfl rfl (q_tn (z := nI (p + 1)) (nI_add p 1) ?_)
  refine q_ialdF rfl rfl (sc_i hp hL (by decide)) (q_tn (sc_v hp hL (by decide)) ?_)
  obtain ⟨ob1, hob1, -⟩ := gs_obj (gj_ab (gz_ab gT1).1).1 (k := 46) rfl
  have hn1 := gs_n (gj_ab (gz_ab gT1).1).1
  refine q_cV rfl rfl (Or.inl rfl) rfl rfl rfl rfl (by omega) hob1 trivial rfl (c2 := c) (s2 := s) rfl rfl rfl rfl (pm_weak (q_kz we270 [((xs (p + 1))).toInt] gT1 ⟨rfl, ck_oku rfl rfl, trivial⟩ (ck_en_c (fullI _).1 (fullI _).2 ck_en_n) (fun d hd => by cases hd)) (fun r S9 n9 h => rz_of rfl h)) ?_
  rintro r T2 _ ⟨rfl, ⟨zT2, rfl⟩, gT2, eT2⟩
  show PQ (j_SL Ls) (j_SV xs) j_EX mm_L_law 937 [.float 5, .ref 0, .ref 46, .ref 81, .int (nI p), a5, a6, a7] [.int zT2] T2 n c s K
  refine q_pop rfl rfl ?_
  refine q_goto rfl ?_
  exact hk θ T2 n _ _ _ _ _ (gj_ab (gz_ab gT2).1).1 (jao_back hn hj k2 gT2 eT1 eT2 rfl rfl) (by omega) (by omega)
set_option maxHeartbeats 4000000 in
theorem k_21 (hL : Ls < 2 ^ 31) : OKJ JAo Ls xs K 941 := by
  intro θ S n c s p a5 a6 a7 hG0 hj hp hc hs hk
  have hn := gs_n hG0
  obtain ⟨f, k2, hG⟩ := jao_gy hG0 hj
  refine q_aload_n rfl rfl rfl ?_
  obtain ⟨ob0, hob0, -⟩ := gs_obj (gj_ab (gz_ab hG).1).1 (k := 0) rfl
  have hn0 := gs_n (gj_ab (gz_ab hG).1).1
  refine q_cV rfl rfl (Or.inl rfl) rfl rfl rfl rfl (by omega) hob0 trivial rfl (c2 := c) (s2 := s) rfl rfl rfl rfl (pm_weak (q_kz we156 [] hG ⟨rfl, trivial⟩ ck_en_n (fun d hd => by cases hd)) (fun r S9 n9 h => rz_of rfl h)) ?_
  rintro r T1 _ ⟨rfl, ⟨zT1, rfl⟩, gT1, eT1⟩
  show PQ (j_SL Ls) (j_SV xs) j_EX mm_L_law 945 [.float 5, .ref 0, .ref 46, .ref 81, .int (nI p), a5, a6, a7] [.int zT1] T1 n c s K
  refine q_pop rfl rfl ?_
  refine q_aload_n rfl rfl rfl ?_
  obtain ⟨ob1, hob1, -⟩ := gs_obj (gj_ab (gz_ab gT1).1).1 (k := 46) rfl
  have hn1 := gs_n (gj_ab (gz_ab gT1).1).1
  refine q_cV rfl rfl (Or.inl rfl) rfl rfl rfl rfl (by omega) hob1 trivial rfl (c2 := c) (s2 := s) rfl rfl rfl rfl (pm_weak (q_kz we272 [] gT1 ⟨rfl, trivial⟩ ck_en_n (fun d hd => by cases hd)) (fun r S9 n9 h => rz_of rfl h)) ?_
  rintro r T2 _ ⟨rfl, ⟨zT2, rfl⟩, gT2, eT2⟩
  show PQ (j_SL Ls) (j_SV xs) j_EX mm_L_law 950 [.float 5, .ref 0, .ref 46, .ref 81, .int (nI p), a5, a6, a7] [.int zT2] T2 n c s K
  refine q_pop rfl rfl ?_
  refine q_goto rfl ?_
  exact hk θ T2 n _ _ _ _ _ (gj_ab (gz_ab gT2).1).1 (jao_back hn hj k2 gT2 eT1 eT2 rfl rfl) (by omega) (by omega)
set_option maxHeartbeats 4000000 in
theorem k_22 (hL : Ls < 2 ^ 31) : OKJ JAo Ls xs K 954 := by
  intro θ S n c s p a5 a6 a7 hG0 hj hp hc hs hk
  have hn := gs_n hG0
  obtain ⟨f, k2, hG⟩ := jao_gy hG0 hj
  refine q_aload_n rfl rfl rfl ?_
  obtain ⟨ob0, hob0, -⟩ := gs_obj (gj_ab (gz_ab hG).1).1 (k := 0) rfl
  have hn0 := gs_n (gj_ab (gz_ab hG).1).1
  refine q_cV rfl rfl (Or.inl rfl) rfl rfl rfl rfl (by omega) hob0 trivial rfl (c2 := c) (s2 := s) rfl rfl rfl rfl (pm_weak (q_kz we160 [] hG ⟨rfl, trivial⟩ ck_en_n (fun d hd => by cases hd)) (fun r S9 n9 h => rz_of rfl h)) ?_
  rintro r T1 _ ⟨rfl, ⟨zT1, rfl⟩, gT1, eT1⟩
  show PQ (j_SL Ls) (j_SV xs) j_EX mm_L_law 958 [.float 5, .ref 0, .ref 46, .ref 81, .int (nI p), a5, a6, a7] [.int zT1] T1 n c s K
  refine q_pop rfl rfl ?_
  refine q_aload_n rfl rfl rfl ?_
  obtain ⟨ob1, hob1, -⟩ := gs_obj (gj_ab (gz_ab gT1).1).1 (k := 46) rfl
  have hn1 := gs_n (gj_ab (gz_ab gT1).1).1
  refine q_cV rfl rfl (Or.inl rfl) rfl rfl rfl rfl (by omega) hob1 trivial rfl (c2 := c) (s2 := s) rfl rfl rfl rfl (pm_weak (q_kz we273 [] gT1 ⟨rfl, trivial⟩ ck_en_n (fun d hd => by cases hd)) (fun r S9 n9 h => rz_of rfl h)) ?_
  rintro r T2 _ ⟨rfl, ⟨zT2, rfl⟩, gT2, eT2⟩
  show PQ (j_SL Ls) (j_SV xs) j_EX mm_L_law 963 [.float 5, .ref 0, .ref 46, .ref 81, .int (nI p), a5, a6, a7] [.int zT2] T2 n c s K
  refine q_pop rfl rfl ?_
  refine q_goto rfl ?_
  exact hk θ T2 n _ _ _ _ _ (gj_ab (gz_ab gT2).1).1 (jao_back hn hj k2 gT2 eT1 eT2 rfl rfl) (by omega) (by omega)
theorem p_claim (L : Nat) (xs : Nat → Int32) (hL : L ≤ 3072) : pm_W j_ft j_df (j_SL L) (j_SV xs) j_MT j_EX mm_L_law (0, pm_en 8 [.float 5], [], [], 0, 0) (fun r _ => r = some (.int 1)) := by
  have key : PQ (j_SL L) (j_SV xs) j_EX mm_L_law 0 [.float 5, pm_un, pm_un, pm_un, pm_un, pm_un, pm_un, pm_un] [] (fun _ => .inr (99, [])) 0 0 0 (fun r _ _ => r = some (.int 1)) :=
    t_run (J := JAo) (fun θ S S' h m => jao_fr h m) (k_0 (by omega)) (k_1 (by omega)) (k_2 (by omega)) (k_3 (by omega)) (k_5 (by omega)) (k_6 (by omega)) (k_8 (by omega)) (k_9 (by omega)) (k_10 (by omega)) (k_11 (by omega)) (k_12 (by omega)) (k_13 (by omega)) (k_14 (by omega)) (k_15 (by omega)) (k_16 (by omega)) (k_17 (by omega)) (k_20 (by omega)) (k_21 (by omega)) (k_22 (by omega)) (fun _ _ => rfl) hL (fun S hW => jao_init hW)
  unfold PQ at key
  exact pm_W_mono _ _ _ _ _ _ key (fun r h' => by rintro ⟨S', n', -, e⟩; exact e)
end WZ
