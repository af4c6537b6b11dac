/-! p27: the cases by hand, the claim on the pure machine -/
section WZ
variable {Ls : Nat} {xs : Nat → Int32} {K : q_K} {S S' : Nat → pm_E} {n : Nat} {θ : Th}
set_option maxHeartbeats 4000000 in
theorem k_0 (hL : Ls < 2 ^ 31) : OKJ (JEr) Ls xs K 172 := by
  intro θ S n c s p a5 a6 a7 hG hj hp hc hs hk
  have hn := gs_n hG
  obtain ⟨fs, k0, -, -, -⟩ := gs_0 hG
  refine q_aload_n rfl rfl rfl ?_
  refine q_aload_nF rfl rfl rfl ?_
  refine q_iload rfl rfl rfl ?_
  refine q_iconst rfl rfl ?_
  refine q_iadd rfl rfl (q_tn (z := nI (p + 1)) (nI_add p 1) ?_)
  refine q_ialdF rfl rfl (sc_i hp hL (by decide)) (q_tn (sc_v hp hL (by decide)) ?_)
  refine q_cV rfl rfl (Or.inl rfl) rfl rfl rfl rfl (by omega) k0 trivial rfl (c2 := c) (s2 := s) rfl rfl rfl rfl (c_pz hG hj.1.1.1) ?_
  rintro r T1 _ ⟨-, rfl, hG1, e1, u1, u2, z, rfl, hz⟩
  show PQ (j_SL Ls) (j_SV xs) j_EX mm_L_law 182 [.float 5, .ref 0, .ref 46, .ref 81, .int (nI p), a5, a6, a7] [.int z] T1 n c s K
  have hn1 := gs_n hG1
  obtain ⟨ob, hob, -⟩ := gs_obj hG1 (k := 46) rfl
  refine q_pop rfl rfl ?_
  refine q_aload_n rfl rfl rfl ?_
  refine q_aload_nF rfl rfl rfl ?_
  refine q_iload rfl rfl rfl ?_
  refine q_iconst rfl rfl ?_
  refine q_iadd rfl rfl (q_tn (z := nI (p + 1)) (nI_add p 1) ?_)
  refine q_ialdF rfl rfl (sc_i hp hL (by decide)) (q_tn (sc_v hp hL (by decide)) ?_)
  refine q_cV rfl rfl (Or.inl rfl) rfl rfl rfl rfl (by omega) hob trivial rfl (c2 := c) (s2 := s) rfl rfl rfl rfl (l_rpuz hG1) ?_
  rintro r T2 m9 ⟨-, en, e2, v1, v2, z', θ', rfl, hG2, hr⟩
  subst m9
  show PQ (j_SL Ls) (j_SV xs) j_EX mm_L_law 193 [.float 5, .ref 0, .ref 46, .ref 81, .int (nI p), a5, a6, a7] [.int z'] T2 n c s K
  refine q_pop rfl rfl ?_
  refine q_goto rfl ?_
  exact hk θ' T2 n c s a5 a6 a7 hG2 (⟨jar_puz hG hG2 hj.1 (ja_puz hG hG2 hj.1.1 (hz z' θ' hr).2.1 ((hz z' θ' hr).2.2 hj.1.1.2.1) e1 e2 u1 u2 v1 v2 hr) e2 u1 (fun h => (u2 h).1) v1 (fun h => (v2 h).1) hr, je_2 hG hG1 hj.2 e1 e2 rfl rfl⟩) (by omega) (by omega)
set_option maxHeartbeats 4000000 in
theorem k_1 (hL : Ls < 2 ^ 31) : OKJ (JEr) Ls xs K 197 := by
  intro θ S n c s p a5 a6 a7 hG hj hp hc hs hk
  have hn := gs_n hG
  obtain ⟨fs, k0, -, -, -⟩ := gs_0 hG
  refine q_aload_n rfl rfl rfl ?_
  refine q_aload_nF rfl rfl rfl ?_
  refine q_iload rfl rfl rfl ?_
  refine q_iconst rfl rfl ?_
  refine q_iadd rfl rfl (q_tn (z := nI (p + 1)) (nI_add p 1) ?_)
  refine q_ialdF rfl rfl (sc_i hp hL (by decide)) (q_tn (sc_v hp hL (by decide)) ?_)
  refine q_aload_nF rfl rfl rfl ?_
  refine q_iload rfl rfl rfl ?_
  refine q_iconst rfl rfl ?_
  refine q_iadd rfl rfl (q_tn (z := nI (p + 2)) (nI_add p 2) ?_)
  refine q_ialdF rfl rfl (sc_i hp hL (by decide)) (q_tn (sc_v hp hL (by decide)) ?_)
  refine q_aload_nF rfl rfl rfl ?_
  refine q_iload rfl rfl rfl ?_
  refine q_iconst rfl rfl ?_
  refine q_iadd rfl rfl (q_tn (z := nI (p + 3)) (nI_add p 3) ?_)
  refine q_ialdF rfl rfl (sc_i hp hL (by decide)) (q_tn (sc_v hp hL (by decide)) ?_)
  refine q_aload_nF rfl rfl rfl ?_
  refine q_iload rfl rfl rfl ?_
  refine q_iconst rfl rfl ?_
  refine q_iadd rfl rfl (q_tn (z := nI (p + 4)) (nI_add p 4) ?_)
  refine q_ialdF rfl rfl (sc_i hp hL (by decide)) (q_tn (sc_v hp hL (by decide)) ?_)
  refine q_cV rfl rfl (Or.inl rfl) rfl rfl rfl rfl (by omega) k0 trivial rfl (c2 := c) (s2 := s) rfl rfl rfl rfl (c_cd hG hj.1.1.1) ?_
  rintro r T1 _ ⟨y1, rfl, hG1, e1, z, rfl, hz⟩
  show PQ (j_SL Ls) (j_SV xs) j_EX mm_L_law 225 [.float 5, .ref 0, .ref 46, .ref 81, .int (nI p), a5, a6, a7] [.int z] T1 n c s K
  have hn1 := gs_n hG1
  obtain ⟨ob, hob, -⟩ := gs_obj hG1 (k := 46) rfl
  refine q_pop rfl rfl ?_
  refine q_aload_n rfl rfl rfl ?_
  refine q_aload_nF rfl rfl rfl ?_
  refine q_iload rfl rfl rfl ?_
  refine q_iconst rfl rfl ?_
  refine q_iadd rfl rfl (q_tn (z := nI (p + 1)) (nI_add p 1) ?_)
  refine q_ialdF rfl rfl (sc_i hp hL (by decide)) (q_tn (sc_v hp hL (by decide)) ?_)
  refine q_aload_nF rfl rfl rfl ?_
  refine q_iload rfl rfl rfl ?_
  refine q_iconst rfl rfl ?_
  refine q_iadd rfl rfl (q_tn (z := nI (p + 2)) (nI_add p 2) ?_)
  refine q_ialdF rfl rfl (sc_i hp hL (by decide)) (q_tn (sc_v hp hL (by decide)) ?_)
  refine q_aload_nF rfl rfl rfl ?_
  refine q_iload rfl rfl rfl ?_
  refine q_iconst rfl rfl ?_
  refine q_iadd rfl rfl (q_tn (z := nI (p + 3)) (nI_add p 3) ?_)
  refine q_ialdF rfl rfl (sc_i hp hL (by decide)) (q_tn (sc_v hp hL (by decide)) ?_)
  refine q_aload_nF rfl rfl rfl ?_
  refine q_iload rfl rfl rfl ?_
  refine q_iconst rfl rfl ?_
  refine q_iadd rfl rfl (q_tn (z := nI (p + 4)) (nI_add p 4) ?_)
  refine q_ialdF rfl rfl (sc_i hp hL (by decide)) (q_tn (sc_v hp hL (by decide)) ?_)
  refine q_cV rfl rfl (Or.inl rfl) rfl rfl rfl rfl (by omega) hob trivial rfl (c2 := c) (s2 := s) rfl rfl rfl rfl (l_rcode hG1) ?_
  rintro r T2 m9 ⟨y2, en, e2, z', θ', rfl, hG2, hr⟩
  subst m9
  show PQ (j_SL Ls) (j_SV xs) j_EX mm_L_law 254 [.float 5, .ref 0, .ref 46, .ref 81, .int (nI p), a5, a6, a7] [.int z'] T2 n c s K
  refine q_pop rfl rfl ?_
  refine q_goto rfl ?_
  exact hk θ' T2 n c s a5 a6 a7 hG2 (⟨jar_step hG hG1 hG2 hj.1 (hz z' θ' hr).2.1 (ja_step hG hG1 hG2 hj.1.1 (hz z' θ' hr).2.1 ((hz z' θ' hr).2.2 hj.1.1.2.1) (wq_cd hj.1.1.2.2.1 hr).1 e1 e2 rfl rfl y1 y2 (wq_cd hj.1.1.2.2.1 hr).2) e1 e2 ⟨rfl, rfl⟩ ⟨rfl, rfl, rfl⟩ y1 y2 (wq_cd hj.1.1.2.2.1 hr).2, je_2 hG hG1 hj.2 e1 e2 rfl rfl⟩) (by omega) (by omega)
set_option maxHeartbeats 4000000 in
theorem k_2 (hL : Ls < 2 ^ 31) : OKJ (JEr) Ls xs K 258 := by
  intro θ S n c s p a5 a6 a7 hG hj hp hc hs hk
  have hn := gs_n hG
  obtain ⟨fs, k0, -, -, -⟩ := gs_0 hG
  refine q_aload_n rfl rfl rfl ?_
  refine q_aload_nF rfl rfl rfl ?_
  refine q_iload rfl rfl rfl ?_
  refine q_iconst rfl rfl ?_
  refine q_iadd rfl rfl (q_tn (z := nI (p + 1)) (nI_add p 1) ?_)
  refine q_ialdF rfl rfl (sc_i hp hL (by decide)) (q_tn (sc_v hp hL (by decide)) ?_)
  refine q_cV rfl rfl (Or.inl rfl) rfl rfl rfl rfl (by omega) k0 trivial rfl (c2 := c) (s2 := s) rfl rfl rfl rfl (c_un hG hj.1.1.1) ?_
  rintro r T1 _ ⟨y1, rfl, hG1, e1, z, rfl, hz⟩
  show PQ (j_SL Ls) (j_SV xs) j_EX mm_L_law 268 [.float 5, .ref 0, .ref 46, .ref 81, .int (nI p), a5, a6, a7] [.int z] T1 n c s K
  have hn1 := gs_n hG1
  obtain ⟨ob, hob, -⟩ := gs_obj hG1 (k := 46) rfl
  refine q_pop rfl rfl ?_
  refine q_aload_n rfl rfl rfl ?_
  refine q_aload_nF rfl rfl rfl ?_
  refine q_iload rfl rfl rfl ?_
  refine q_iconst rfl rfl ?_
  refine q_iadd rfl rfl (q_tn (z := nI (p + 1)) (nI_add p 1) ?_)
  refine q_ialdF rfl rfl (sc_i hp hL (by decide)) (q_tn (sc_v hp hL (by decide)) ?_)
  refine q_cV rfl rfl (Or.inl rfl) rfl rfl rfl rfl (by omega) hob trivial rfl (c2 := c) (s2 := s) rfl rfl rfl rfl (l_runc hG1) ?_
  rintro r T2 m9 ⟨y2, en, e2, z', θ', rfl, hG2, hr⟩
  subst m9
  show PQ (j_SL Ls) (j_SV xs) j_EX mm_L_law 279 [.float 5, .ref 0, .ref 46, .ref 81, .int (nI p), a5, a6, a7] [.int z'] T2 n c s K
  refine q_pop rfl rfl ?_
  refine q_goto rfl ?_
  exact hk θ' T2 n c s a5 a6 a7 hG2 (⟨jar_step hG hG1 hG2 hj.1 (hz z' θ' hr).2.1 (ja_step hG hG1 hG2 hj.1.1 (hz z' θ' hr).2.1 ((hz z' θ' hr).2.2 hj.1.1.2.1) (wq_uc (gs_rq hG) hj.1.1.2.2.1 hr).1 e1 e2 rfl rfl y1 y2 (wq_uc (gs_rq hG) hj.1.1.2.2.1 hr).2) e1 e2 ⟨rfl, rfl⟩ ⟨rfl, rfl, rfl⟩ y1 y2 (wq_uc (gs_rq hG) hj.1.1.2.2.1 hr).2, je_2 hG hG1 hj.2 e1 e2 rfl rfl⟩) (by omega) (by omega)
set_option maxHeartbeats 4000000 in
theorem k_3 (hL : Ls < 2 ^ 31) : OKJ (JEr) Ls xs K 283 := by
  intro θ S n c s p a5 a6 a7 hG hj hp hc hs hk
  have hn := gs_n hG
  obtain ⟨fs, k0, -, -, -⟩ := gs_0 hG
  refine q_aload_n rfl rfl rfl ?_
  refine q_aload_nF rfl rfl rfl ?_
  refine q_iload rfl rfl rfl ?_
  refine q_iconst rfl rfl ?_
  refine q_iadd rfl rfl (q_tn (z := nI (p + 1)) (nI_add p 1) ?_)
  refine q_ialdF rfl rfl (sc_i hp hL (by decide)) (q_tn (sc_v hp hL (by decide)) ?_)
  refine q_aload_nF rfl rfl rfl ?_
  refine q_iload rfl rfl rfl ?_
  refine q_iconst rfl rfl ?_
  refine q_iadd rfl rfl (q_tn (z := nI (p + 2)) (nI_add p 2) ?_)
  refine q_ialdF rfl rfl (sc_i hp hL (by decide)) (q_tn (sc_v hp hL (by decide)) ?_)
  refine q_cV rfl rfl (Or.inl rfl) rfl rfl rfl rfl (by omega) k0 trivial rfl (c2 := c) (s2 := s) rfl rfl rfl rfl (c_va hG) ?_
  rintro r T1 _ ⟨y1, rfl, hG1, e1, z, f, f', rfl, q1, q2, hv⟩
  show PQ (j_SL Ls) (j_SV xs) j_EX mm_L_law 299 [.float 5, .ref 0, .ref 46, .ref 81, .int (nI p), a5, a6, a7] [.int z] T1 n c s K
  have hn1 := gs_n hG1
  obtain ⟨ob, hob, -⟩ := gs_obj hG1 (k := 46) rfl
  refine q_pop rfl rfl ?_
  refine q_aload_n rfl rfl rfl ?_
  refine q_aload_nF rfl rfl rfl ?_
  refine q_iload rfl rfl rfl ?_
  refine q_iconst rfl rfl ?_
  refine q_iadd rfl rfl (q_tn (z := nI (p + 1)) (nI_add p 1) ?_)
  refine q_ialdF rfl rfl (sc_i hp hL (by decide)) (q_tn (sc_v hp hL (by decide)) ?_)
  refine q_aload_nF rfl rfl rfl ?_
  refine q_iload rfl rfl rfl ?_
  refine q_iconst rfl rfl ?_
  refine q_iadd rfl rfl (q_tn (z := nI (p + 2)) (nI_add p 2) ?_)
  refine q_ialdF rfl rfl (sc_i hp hL (by decide)) (q_tn (sc_v hp hL (by decide)) ?_)
  refine q_cV rfl rfl (Or.inl rfl) rfl rfl rfl rfl (by omega) hob trivial rfl (c2 := c) (s2 := s) rfl rfl rfl rfl (l_rva hG1) ?_
  rintro r T2 m9 ⟨y2, en, hG2, e2, z', g, g', rfl, q3, q4, hv'⟩
  subst m9
  show PQ (j_SL Ls) (j_SV xs) j_EX mm_L_law 316 [.float 5, .ref 0, .ref 46, .ref 81, .int (nI p), a5, a6, a7] [.int z'] T2 n c s K
  refine q_pop rfl rfl ?_
  refine q_goto rfl ?_
  exact hk θ T2 n c s a5 a6 a7 hG2 (⟨jar_vl hG hG2 hj.1 (ja_vl hG hG2 hj.1.1 e1 e2 y1 y2 q1 q2 q3 q4 hv hv').2 e1 e2 y1 y2 q1 q2 q3 q4, je_2 hG hG1 hj.2 e1 e2 rfl rfl⟩) (by omega) (by omega)
set_option maxHeartbeats 4000000 in
theorem k_5 (hL : Ls < 2 ^ 31) : OKJ (JEr) Ls xs K 369 := by
  intro θ S n c s p a5 a6 a7 hG hj hp hc hs hk
  have hn := gs_n hG
  obtain ⟨fs, k0, -, -, -⟩ := gs_0 hG
  obtain ⟨f, k2, hGY⟩ := jar_gy hG hj.1
  have hGJ := (gy_ab hGY).1
  obtain ⟨fs9, x9, rn9, r0, r11, hwd, r54, hrn⟩ := (gy_ab hGY).2
  refine q_aload_n rfl rfl rfl ?_
  refine q_cV rfl rfl (Or.inl rfl) rfl rfl rfl rfl (by omega) k0 trivial rfl (c2 := c) (s2 := s) rfl rfl rfl rfl (rk_c hn (pm_weak (q_kj (wc_of w31 rfl) [] hGJ ⟨rfl, trivial⟩ ck_en_n (fun d hd => by cases hd)) (fun r S9 n9 h => rj_of rfl h)) (c_start (gj_ab hGJ).1 (gj_ab hGJ).2.2 r0 r11)) ?_
  rintro r T1 _ ⟨rfl, hGJ1, e1, z, rfl, fs1, t1, y0, y11, hq⟩
  show PQ (j_SL Ls) (j_SV xs) j_EX mm_L_law 373 [.float 5, .ref 0, .ref 46, .ref 81, .int (nI p), a5, a6, a7] [.int z] T1 n c s K
  have hn1 := gs_n (gj_ab hGJ1).1
  obtain ⟨ob, hob, -⟩ := gs_obj (gj_ab hGJ1).1 (k := 46) rfl
  refine q_pop rfl rfl ?_
  refine q_aload_n rfl rfl rfl ?_
  refine q_cV rfl rfl (Or.inl rfl) rfl rfl rfl rfl (by omega) hob trivial rfl (c2 := c) (s2 := s) rfl rfl rfl rfl (rk_r hn (pm_weak (q_kj (wc_of w181 rfl) [] hGJ1 ⟨rfl, trivial⟩ ck_en_n (fun d hd => by cases hd)) (fun r S9 n9 h => rj_of rfl h)) (l_start (gj_ab hGJ1).1 (gj_ab hGJ1).2.1 (gj_ab hGJ1).2.2 ((e1 54 (by omega) rfl).trans r54))) ?_
  rintro r T2 m9 ⟨en, hGJ2, e2, z', rfl, rn1, y54, hq'⟩
  subst m9
  show PQ (j_SL Ls) (j_SV xs) j_EX mm_L_law 378 [.float 5, .ref 0, .ref 46, .ref 81, .int (nI p), a5, a6, a7] [.int z'] T2 n c s K
  refine q_pop rfl rfl ?_
  refine q_goto rfl ?_
  exact hk θ T2 n c s a5 a6 a7 (gj_ab hGJ2).1 (⟨jar_run hn hj.1 k2 hGJ2 e1 e2 rfl rfl rfl y0 y11 y54 (start_eq (gj_ab hGJ).2.2.1 hwd hrn hq hq').2, je_2 hG (gj_ab hGJ1).1 hj.2 e1 e2 rfl rfl⟩) (by omega) (by omega)
set_option maxHeartbeats 4000000 in
theorem k_6 (hL : Ls < 2 ^ 31) : OKJ (JEr) Ls xs K 382 := by
  intro θ S n c s p a5 a6 a7 hG hj hp hc hs hk
  have hn := gs_n hG
  obtain ⟨fs, k0, -, -, -⟩ := gs_0 hG
  obtain ⟨f, k2, hGY⟩ := jar_gy hG hj.1
  have hGJ := (gy_ab hGY).1
  obtain ⟨fs9, x9, rn9, r0, r11, hwd, r54, hrn⟩ := (gy_ab hGY).2
  refine q_aload_n rfl rfl rfl ?_
  refine q_aload_nF rfl rfl rfl ?_
  refine q_iload rfl rfl rfl ?_
  refine q_iconst rfl rfl ?_
  refine q_iadd rfl rfl (q_tn (z := nI (p + 1)) (nI_add p 1) ?_)
  refine q_ialdF rfl rfl (sc_i hp hL (by decide)) (q_tn (sc_v hp hL (by decide)) ?_)
  refine q_cV rfl rfl (Or.inl rfl) rfl rfl rfl rfl (by omega) k0 trivial rfl (c2 := c) (s2 := s) rfl rfl rfl rfl (rk_c hn (pm_weak (q_kj (wc_of w58 rfl) [(xs (p + 1)).toInt] hGJ ⟨rfl, ck_oku rfl rfl, trivial⟩ (ck_en_c (fullI _).1 (fullI _).2 ck_en_n) (fun d hd => by cases hd)) (fun r S9 n9 h => rj_of rfl h)) (c_go (gj_ab hGJ).1 (gj_ab hGJ).2.2 r0 r11 hwd)) ?_
  rintro r T1 _ ⟨rfl, hGJ1, e1, z, rfl, fs1, t1, y0, y11, hq⟩
  show PQ (j_SL Ls) (j_SV xs) j_EX mm_L_law 392 [.float 5, .ref 0, .ref 46, .ref 81, .int (nI p), a5, a6, a7] [.int z] T1 n c s K
  have hn1 := gs_n (gj_ab hGJ1).1
  obtain ⟨ob, hob, -⟩ := gs_obj (gj_ab hGJ1).1 (k := 46) rfl
  refine q_pop rfl rfl ?_
  refine q_aload_n rfl rfl rfl ?_
  refine q_aload_nF rfl rfl rfl ?_
  refine q_iload rfl rfl rfl ?_
  refine q_iconst rfl rfl ?_
  refine q_iadd rfl rfl (q_tn (z := nI (p + 1)) (nI_add p 1) ?_)
  refine q_ialdF rfl rfl (sc_i hp hL (by decide)) (q_tn (sc_v hp hL (by decide)) ?_)
  refine q_cV rfl rfl (Or.inl rfl) rfl rfl rfl rfl (by omega) hob trivial rfl (c2 := c) (s2 := s) rfl rfl rfl rfl (rk_r hn (pm_weak (q_kj (wc_of w194 rfl) [(xs (p + 1)).toInt] hGJ1 ⟨rfl, ck_oku rfl rfl, trivial⟩ (ck_en_c (fullI _).1 (fullI _).2 ck_en_n) (fun d hd => by cases hd)) (fun r S9 n9 h => rj_of rfl h)) (l_go (gj_ab hGJ1).1 (gj_ab hGJ1).2.1 (gj_ab hGJ1).2.2 ((e1 54 (by omega) rfl).trans r54) hwd hrn)) ?_
  rintro r T2 m9 ⟨en, hGJ2, e2, z', rfl, rn1, y54, hq'⟩
  subst m9
  show PQ (j_SL Ls) (j_SV xs) j_EX mm_L_law 403 [.float 5, .ref 0, .ref 46, .ref 81, .int (nI p), a5, a6, a7] [.int z'] T2 n c s K
  refine q_pop rfl rfl ?_
  refine q_goto rfl ?_
  exact hk θ T2 n c s a5 a6 a7 (gj_ab hGJ2).1 (⟨jar_run hn hj.1 k2 hGJ2 e1 e2 rfl rfl rfl y0 y11 y54 (go_eq (gj_ab hGJ).2.2.1 hwd hrn hq hq').2, je_2 hG (gj_ab hGJ1).1 hj.2 e1 e2 rfl rfl⟩) (by omega) (by omega)
set_option maxHeartbeats 4000000 in
theorem k_13 (hL : Ls < 2 ^ 31) : OKJ (JEr) Ls xs K 593 := by
  intro θ S n c s p a5 a6 a7 hG hj hp hc hs hk
  have hn := gs_n hG
  obtain ⟨fs, k0, -, -, -⟩ := gs_0 hG
  obtain ⟨f, k2, hGY⟩ := jar_gy hG hj.1
  have hGJ := (gy_ab hGY).1
  obtain ⟨fs9, x9, rn9, r0, r11, hwd, r54, hrn⟩ := (gy_ab hGY).2
  refine q_aload_n rfl rfl rfl ?_
  refine q_aload_nF rfl rfl rfl ?_
  refine q_iload rfl rfl rfl ?_
  refine q_iconst rfl rfl ?_
  refine q_iadd rfl rfl (q_tn (z := nI (p + 1)) (nI_add p 1) ?_)
  refine q_ialdF rfl rfl (sc_i hp hL (by decide)) (q_tn (sc_v hp hL (by decide)) ?_)
  refine q_cV rfl rfl (Or.inl rfl) rfl rfl rfl rfl (by omega) k0 trivial rfl (c2 := c) (s2 := s) rfl rfl rfl rfl (rk_c hn (pm_weak (q_kj wb103 [(xs (p + 1)).toInt] hGJ ⟨rfl, ck_oku rfl rfl, trivial⟩ (ck_en_c (fullI _).1 (fullI _).2 ck_en_n) (fun d hd => by cases hd)) (fun r S9 n9 h => rj_of rfl h)) (c_lead (gj_ab hGJ).1 (gj_ab hGJ).2.2 r0 r11)) ?_
  rintro r T1 _ ⟨rfl, hGJ1, e1, z, rfl, fs1, t1, y0, y11, hq⟩
  show PQ (j_SL Ls) (j_SV xs) j_EX mm_L_law 603 [.float 5, .ref 0, .ref 46, .ref 81, .int (nI p), a5, a6, a7] [.int z] T1 n c s K
  have hn1 := gs_n (gj_ab hGJ1).1
  obtain ⟨ob, hob, -⟩ := gs_obj (gj_ab hGJ1).1 (k := 46) rfl
  refine q_pop rfl rfl ?_
  refine q_aload_n rfl rfl rfl ?_
  refine q_aload_nF rfl rfl rfl ?_
  refine q_iload rfl rfl rfl ?_
  refine q_iconst rfl rfl ?_
  refine q_iadd rfl rfl (q_tn (z := nI (p + 1)) (nI_add p 1) ?_)
  refine q_ialdF rfl rfl (sc_i hp hL (by decide)) (q_tn (sc_v hp hL (by decide)) ?_)
  refine q_cV rfl rfl (Or.inl rfl) rfl rfl rfl rfl (by omega) hob trivial rfl (c2 := c) (s2 := s) rfl rfl rfl rfl (rk_r hn (pm_weak (q_kj wb209 [(xs (p + 1)).toInt] hGJ1 ⟨rfl, ck_oku rfl rfl, trivial⟩ (ck_en_c (fullI _).1 (fullI _).2 ck_en_n) (fun d hd => by cases hd)) (fun r S9 n9 h => rj_of rfl h)) (l_lead (gj_ab hGJ1).1 (gj_ab hGJ1).2.1 (gj_ab hGJ1).2.2 ((e1 54 (by omega) rfl).trans r54))) ?_
  rintro r T2 m9 ⟨en, hGJ2, e2, z', rfl, rn1, y54, hq'⟩
  subst m9
  show PQ (j_SL Ls) (j_SV xs) j_EX mm_L_law 614 [.float 5, .ref 0, .ref 46, .ref 81, .int (nI p), a5, a6, a7] [.int z'] T2 n c s K
  refine q_pop rfl rfl ?_
  refine q_goto rfl ?_
  exact hk θ T2 n c s a5 a6 a7 (gj_ab hGJ2).1 (⟨jar_run hn hj.1 k2 hGJ2 e1 e2 rfl rfl rfl y0 y11 y54 (lead_eq (gj_ab hGJ).2.2.1 hwd hrn hq hq').2, je_2 hG (gj_ab hGJ1).1 hj.2 e1 e2 rfl rfl⟩) (by omega) (by omega)
set_option maxHeartbeats 4000000 in
theorem k_23 (hL : Ls < 2 ^ 31) : OKJ (JEr) Ls xs K 967 := by
  intro θ S n c s p a5 a6 a7 hG hj hp hc hs hk
  have hn := gs_n hG
  obtain ⟨fs, k0, -, -, -⟩ := gs_0 hG
  obtain ⟨h2, hK, fs9, x9, rn9, r0, r11, r54, hv1, hv2⟩ := jer_run hj.1
  obtain ⟨g9, k79⟩ := gs_lng hG (k := 79) rfl
  refine q_aload_n rfl rfl rfl ?_
  refine q_aload_nF rfl rfl rfl ?_
  refine q_iload rfl rfl rfl ?_
  refine q_iconst rfl rfl ?_
  refine q_iadd rfl rfl (q_tn (z := nI (p + 1)) (nI_add p 1) ?_)
  refine q_ialdF rfl rfl (sc_i hp hL (by decide)) (q_tn (sc_v hp hL (by decide)) ?_)
  refine q_aload_nF rfl rfl rfl ?_
  refine q_iload rfl rfl rfl ?_
  refine q_iconst rfl rfl ?_
  refine q_iadd rfl rfl (q_tn (z := nI (p + 2)) (nI_add p 2) ?_)
  refine q_ialdF rfl rfl (sc_i hp hL (by decide)) (q_tn (sc_v hp hL (by decide)) ?_)
  refine q_aload_nF rfl rfl rfl ?_
  refine q_iload rfl rfl rfl ?_
  refine q_iconst rfl rfl ?_
  refine q_iadd rfl rfl (q_tn (z := nI (p + 3)) (nI_add p 3) ?_)
  refine q_ialdF rfl rfl (sc_i hp hL (by decide)) (q_tn (sc_v hp hL (by decide)) ?_)
  refine q_aload_nF rfl rfl rfl ?_
  refine q_iload rfl rfl rfl ?_
  refine q_iconst rfl rfl ?_
  refine q_iadd rfl rfl (q_tn (z := nI (p + 4)) (nI_add p 4) ?_)
  refine q_ialdF rfl rfl (sc_i hp hL (by decide)) (q_tn (sc_v hp hL (by decide)) ?_)
  refine q_cV rfl rfl (Or.inl rfl) rfl rfl rfl rfl (by omega) k0 ⟨Nat.ble_eq_true_of_le (show c + 5 ≤ 601024 by omega), Nat.ble_eq_true_of_le (show s + 124 ≤ 7293033 by omega)⟩ rfl (c2 := c + 5) (s2 := s + 124) rfl rfl rfl rfl (c_kp3 hG h2 hK r0 r11) ?_
  rintro r T1 n1 ⟨le1, hG1, e1, z, rfl, hz, hs1⟩
  show PQ (j_SL Ls) (j_SV xs) j_EX mm_L_law 995 [.float 5, .ref 0, .ref 46, .ref 81, .int (nI p), a5, a6, a7] [.int z] T1 n1 (c + 5) (s + 124) K
  have hn1 := gs_n hG1
  obtain ⟨ob, hob, -⟩ := gs_obj hG1 (k := 46) rfl
  refine q_pop rfl rfl ?_
  refine q_aload_n rfl rfl rfl ?_
  refine q_aload_nF rfl rfl rfl ?_
  refine q_iload rfl rfl rfl ?_
  refine q_iconst rfl rfl ?_
  refine q_iadd rfl rfl (q_tn (z := nI (p + 1)) (nI_add p 1) ?_)
  refine q_ialdF rfl rfl (sc_i hp hL (by decide)) (q_tn (sc_v hp hL (by decide)) ?_)
  refine q_aload_nF rfl rfl rfl ?_
  refine q_iload rfl rfl rfl ?_
  refine q_iconst rfl rfl ?_
  refine q_iadd rfl rfl (q_tn (z := nI (p + 2)) (nI_add p 2) ?_)
  refine q_ialdF rfl rfl (sc_i hp hL (by decide)) (q_tn (sc_v hp hL (by decide)) ?_)
  refine q_aload_nF rfl rfl rfl ?_
  refine q_iload rfl rfl rfl ?_
  refine q_iconst rfl rfl ?_
  refine q_iadd rfl rfl (q_tn (z := nI (p + 3)) (nI_add p 3) ?_)
  refine q_ialdF rfl rfl (sc_i hp hL (by decide)) (q_tn (sc_v hp hL (by decide)) ?_)
  refine q_aload_nF rfl rfl rfl ?_
  refine q_iload rfl rfl rfl ?_
  refine q_iconst rfl rfl ?_
  refine q_iadd rfl rfl (q_tn (z := nI (p + 4)) (nI_add p 4) ?_)
  refine q_ialdF rfl rfl (sc_i hp hL (by decide)) (q_tn (sc_v hp hL (by decide)) ?_)
  refine q_cV rfl rfl (Or.inl rfl) rfl rfl rfl rfl (by omega) hob trivial rfl (c2 := (c + 5)) (s2 := (s + 124)) rfl rfl rfl rfl (l_rkpX ((e1 54 (by omega) (by decide)).trans r54) ((e1 79 (by omega) (by decide)).trans k79) hG1) ?_
  rintro r T2 m9 ⟨en, hG2, e2, z', rfl, hz', hs2⟩
  subst m9
  show PQ (j_SL Ls) (j_SV xs) j_EX mm_L_law 1024 [.float 5, .ref 0, .ref 46, .ref 81, .int (nI p), a5, a6, a7] [.int z'] T2 n1 (c + 5) (s + 124) K
  refine q_pop rfl rfl ?_
  refine q_goto rfl ?_
  exact hk θ T2 n1 (c + 5) (s + 124) a5 a6 a7 hG2 (jer_keep hG le1 hG1 hj e1 e2 hz hz' hs1 ((e1 79 (by omega) (by decide)).trans k79) hs2 hv1 hv2) (by omega) (by omega)
set_option maxHeartbeats 4000000 in
theorem k_24 (hL : Ls < 2 ^ 31) : OKJ (JEr) Ls xs K 1028 := by
  intro θ S n c s p a5 a6 a7 hG hj hp hc hs hk
  have hn := gs_n hG
  obtain ⟨fs, k0, -, -, -⟩ := gs_0 hG
  obtain ⟨g9, k79⟩ := gs_lng hG (k := 79) rfl
  refine q_aload_n rfl rfl rfl ?_
  refine q_aload_nF rfl rfl rfl ?_
  refine q_iload rfl rfl rfl ?_
  refine q_iconst rfl rfl ?_
  refine q_iadd rfl rfl (q_tn (z := nI (p + 1)) (nI_add p 1) ?_)
  refine q_ialdF rfl rfl (sc_i hp hL (by decide)) (q_tn (sc_v hp hL (by decide)) ?_)
  refine q_aload_nF rfl rfl rfl ?_
  refine q_iload rfl rfl rfl ?_
  refine q_iconst rfl rfl ?_
  refine q_iadd rfl rfl (q_tn (z := nI (p + 2)) (nI_add p 2) ?_)
  refine q_ialdF rfl rfl (sc_i hp hL (by decide)) (q_tn (sc_v hp hL (by decide)) ?_)
  refine q_aload_nF rfl rfl rfl ?_
  refine q_iload rfl rfl rfl ?_
  refine q_iconst rfl rfl ?_
  refine q_iadd rfl rfl (q_tn (z := nI (p + 3)) (nI_add p 3) ?_)
  refine q_ialdF rfl rfl (sc_i hp hL (by decide)) (q_tn (sc_v hp hL (by decide)) ?_)
  refine q_cV rfl rfl (Or.inl rfl) rfl rfl rfl rfl (by omega) k0 ⟨Nat.ble_eq_true_of_le (show c + 4 ≤ 601024 by omega), Nat.ble_eq_true_of_le (show s + 122 ≤ 7293033 by omega)⟩ rfl (c2 := c + 4) (s2 := s + 122) rfl rfl rfl rfl (c_mk2 hG) ?_
  rintro r T1 n1 ⟨le1, hG1, e1, z, rfl, hz, hs1⟩
  show PQ (j_SL Ls) (j_SV xs) j_EX mm_L_law 1050 [.float 5, .ref 0, .ref 46, .ref 81, .int (nI p), a5, a6, a7] [.int z] T1 n1 (c + 4) (s + 122) K
  have hn1 := gs_n hG1
  obtain ⟨ob, hob, -⟩ := gs_obj hG1 (k := 46) rfl
  refine q_pop rfl rfl ?_
  refine q_aload_n rfl rfl rfl ?_
  refine q_aload_nF rfl rfl rfl ?_
  refine q_iload rfl rfl rfl ?_
  refine q_iconst rfl rfl ?_
  refine q_iadd rfl rfl (q_tn (z := nI (p + 1)) (nI_add p 1) ?_)
  refine q_ialdF rfl rfl (sc_i hp hL (by decide)) (q_tn (sc_v hp hL (by decide)) ?_)
  refine q_aload_nF rfl rfl rfl ?_
  refine q_iload rfl rfl rfl ?_
  refine q_iconst rfl rfl ?_
  refine q_iadd rfl rfl (q_tn (z := nI (p + 2)) (nI_add p 2) ?_)
  refine q_ialdF rfl rfl (sc_i hp hL (by decide)) (q_tn (sc_v hp hL (by decide)) ?_)
  refine q_aload_nF rfl rfl rfl ?_
  refine q_iload rfl rfl rfl ?_
  refine q_iconst rfl rfl ?_
  refine q_iadd rfl rfl (q_tn (z := nI (p + 3)) (nI_add p 3) ?_)
  refine q_ialdF rfl rfl (sc_i hp hL (by decide)) (q_tn (sc_v hp hL (by decide)) ?_)
  refine q_cV rfl rfl (Or.inl rfl) rfl rfl rfl rfl (by omega) hob trivial rfl (c2 := (c + 4)) (s2 := (s + 122)) rfl rfl rfl rfl (l_rmkX hG1 ((e1 79 (by omega) (by decide)).trans k79)) ?_
  rintro r T2 m9 ⟨en, hG2, e2, z', rfl, hz', hs2⟩
  subst m9
  show PQ (j_SL Ls) (j_SV xs) j_EX mm_L_law 1073 [.float 5, .ref 0, .ref 46, .ref 81, .int (nI p), a5, a6, a7] [.int z'] T2 n1 (c + 4) (s + 122) K
  refine q_pop rfl rfl ?_
  refine q_goto rfl ?_
  exact hk θ T2 n1 (c + 4) (s + 122) a5 a6 a7 hG2 (jer_make hG le1 hj e1 e2 hz hz' ((e1 79 (by omega) (by decide)).trans k79) hs1 hs2) (by omega) (by omega)
set_option maxHeartbeats 4000000 in
theorem k_26 (hL : Ls < 2 ^ 31) : OKJ (JEr) Ls xs K 1144 := by
  intro θ S n c s p a5 a6 a7 hG hj hp hc hs hk
  have hn := gs_n hG
  obtain ⟨fs, k0, -, -, -⟩ := gs_0 hG
  obtain ⟨f9, HF9, SF9, g9, hJ9⟩ := hj.2
  refine q_aload_n rfl rfl rfl ?_
  refine q_aload_nF rfl rfl rfl ?_
  refine q_iload rfl rfl rfl ?_
  refine q_iconst rfl rfl ?_
  refine q_iadd rfl rfl (q_tn (z := nI (p + 1)) (nI_add p 1) ?_)
  refine q_ialdF rfl rfl (sc_i hp hL (by decide)) (q_tn (sc_v hp hL (by decide)) ?_)
  refine q_aload_nF rfl rfl rfl ?_
  refine q_iload rfl rfl rfl ?_
  refine q_iconst rfl rfl ?_
  refine q_iadd rfl rfl (q_tn (z := nI (p + 2)) (nI_add p 2) ?_)
  refine q_ialdF rfl rfl (sc_i hp hL (by decide)) (q_tn (sc_v hp hL (by decide)) ?_)
  refine q_aload_nF rfl rfl rfl ?_
  refine q_iload rfl rfl rfl ?_
  refine q_iconst rfl rfl ?_
  refine q_iadd rfl rfl (q_tn (z := nI (p + 3)) (nI_add p 3) ?_)
  refine q_ialdF rfl rfl (sc_i hp hL (by decide)) (q_tn (sc_v hp hL (by decide)) ?_)
  refine q_aload_nF rfl rfl rfl ?_
  refine q_iload rfl rfl rfl ?_
  refine q_iconst rfl rfl ?_
  refine q_iadd rfl rfl (q_tn (z := nI (p + 4)) (nI_add p 4) ?_)
  refine q_ialdF rfl rfl (sc_i hp hL (by decide)) (q_tn (sc_v hp hL (by decide)) ?_)
  refine q_aload_nF rfl rfl rfl ?_
  refine q_iload rfl rfl rfl ?_
  refine q_iconst rfl rfl ?_
  refine q_iadd rfl rfl (q_tn (z := nI (p + 5)) (nI_add p 5) ?_)
  refine q_ialdF rfl rfl (sc_i hp hL (by decide)) (q_tn (sc_v hp hL (by decide)) ?_)
  refine q_cV rfl rfl (Or.inl rfl) rfl rfl rfl rfl (by omega) k0 trivial rfl (c2 := c) (s2 := s) rfl rfl rfl rfl (c_cp5 hG hJ9) ?_
  rintro r T1 _ ⟨rfl, hG1, e1, z, rfl, hz, S2, hS2, hI⟩
  show PQ (j_SL Ls) (j_SV xs) j_EX mm_L_law 1178 [.float 5, .ref 0, .ref 46, .ref 81, .int (nI p), a5, a6, a7] [.int z] T1 n c s K
  have hn1 := gs_n hG1
  obtain ⟨ob, hob, -⟩ := gs_obj hG1 (k := 46) rfl
  refine q_pop rfl rfl ?_
  refine q_aload_n rfl rfl rfl ?_
  refine q_aload_nF rfl rfl rfl ?_
  refine q_iload rfl rfl rfl ?_
  refine q_iconst rfl rfl ?_
  refine q_iadd rfl rfl (q_tn (z := nI (p + 1)) (nI_add p 1) ?_)
  refine q_ialdF rfl rfl (sc_i hp hL (by decide)) (q_tn (sc_v hp hL (by decide)) ?_)
  refine q_aload_nF rfl rfl rfl ?_
  refine q_iload rfl rfl rfl ?_
  refine q_iconst rfl rfl ?_
  refine q_iadd rfl rfl (q_tn (z := nI (p + 2)) (nI_add p 2) ?_)
  refine q_ialdF rfl rfl (sc_i hp hL (by decide)) (q_tn (sc_v hp hL (by decide)) ?_)
  refine q_aload_nF rfl rfl rfl ?_
  refine q_iload rfl rfl rfl ?_
  refine q_iconst rfl rfl ?_
  refine q_iadd rfl rfl (q_tn (z := nI (p + 3)) (nI_add p 3) ?_)
  refine q_ialdF rfl rfl (sc_i hp hL (by decide)) (q_tn (sc_v hp hL (by decide)) ?_)
  refine q_aload_nF rfl rfl rfl ?_
  refine q_iload rfl rfl rfl ?_
  refine q_iconst rfl rfl ?_
  refine q_iadd rfl rfl (q_tn (z := nI (p + 4)) (nI_add p 4) ?_)
  refine q_ialdF rfl rfl (sc_i hp hL (by decide)) (q_tn (sc_v hp hL (by decide)) ?_)
  refine q_aload_nF rfl rfl rfl ?_
  refine q_iload rfl rfl rfl ?_
  refine q_iconst rfl rfl ?_
  refine q_iadd rfl rfl (q_tn (z := nI (p + 5)) (nI_add p 5) ?_)
  refine q_ialdF rfl rfl (sc_i hp hL (by decide)) (q_tn (sc_v hp hL (by decide)) ?_)
  refine q_cV rfl rfl (Or.inl rfl) rfl rfl rfl rfl (by omega) hob trivial rfl (c2 := c) (s2 := s) rfl rfl rfl rfl (l_rcp3 hG1 ((e1 75 (by omega)).trans hJ9.2.1) ((e1 78 (by omega)).trans hJ9.2.2.1) ((e1 79 (by omega)).trans hJ9.2.2.2.1)) ?_
  rintro r T2 m9 ⟨en, hG2, e2, z', rfl, hz', g9', t79, hI'⟩
  subst m9
  show PQ (j_SL Ls) (j_SV xs) j_EX mm_L_law 1213 [.float 5, .ref 0, .ref 46, .ref 81, .int (nI p), a5, a6, a7] [.int z'] T2 n c s K
  refine q_pop rfl rfl ?_
  refine q_goto rfl ?_
  exact hk θ T2 n c s a5 a6 a7 hG2 (jer_copy hG hj.1 hJ9 e1 e2 hz hz' hS2 hI t79 hI') (by omega) (by omega)
set_option maxHeartbeats 4000000 in
theorem k_27 (hL : Ls < 2 ^ 31) : OKJ (JEr) Ls xs K 1217 := by
  intro θ S n c s p a5 a6 a7 hG hj hp hc hs hk
  have hn := gs_n hG
  obtain ⟨fs, k0, -, -, -⟩ := gs_0 hG
  obtain ⟨f9, h43, -⟩ := gs_43 hG
  refine q_aload_n rfl rfl rfl ?_
  refine q_aload_nF rfl rfl rfl ?_
  refine q_iload rfl rfl rfl ?_
  refine q_iconst rfl rfl ?_
  refine q_iadd rfl rfl (q_tn (z := nI (p + 1)) (nI_add p 1) ?_)
  refine q_ialdF rfl rfl (sc_i hp hL (by decide)) (q_tn (sc_v hp hL (by decide)) ?_)
  refine q_cV rfl rfl (Or.inl rfl) rfl rfl rfl rfl (by omega) k0 trivial rfl (c2 := c) (s2 := s) rfl rfl rfl rfl (c_weE hG h43) ?_
  rintro r T1 n1 ⟨le1, hG1, e1, z, rfl⟩
  show PQ (j_SL Ls) (j_SV xs) j_EX mm_L_law 1227 [.float 5, .ref 0, .ref 46, .ref 81, .int (nI p), a5, a6, a7] [.int z] T1 n1 c s K
  have hn1 := gs_n hG1
  obtain ⟨ob, hob, -⟩ := gs_obj hG1 (k := 46) rfl
  refine q_pop rfl rfl ?_
  refine q_aload_n rfl rfl rfl ?_
  refine q_aload_nF rfl rfl rfl ?_
  refine q_iload rfl rfl rfl ?_
  refine q_iconst rfl rfl ?_
  refine q_iadd rfl rfl (q_tn (z := nI (p + 1)) (nI_add p 1) ?_)
  refine q_ialdF rfl rfl (sc_i hp hL (by decide)) (q_tn (sc_v hp hL (by decide)) ?_)
  refine q_cV rfl rfl (Or.inl rfl) rfl rfl rfl rfl (by omega) hob trivial rfl (c2 := c) (s2 := s) rfl rfl rfl rfl (pm_weak (q_kc w289 [(xs (p + 1)).toInt] hG1 ⟨rfl, ck_oku rfl rfl, trivial⟩ (ck_en_c (fullI _).1 (fullI _).2 ck_en_n) (fun d hd => by cases hd)) (fun r S9 n9 h => ri_of rfl h)) ?_
  rintro r T2 m9 ⟨en, ⟨z', rfl⟩, hG2, e2⟩
  subst m9
  show PQ (j_SL Ls) (j_SV xs) j_EX mm_L_law 1238 [.float 5, .ref 0, .ref 46, .ref 81, .int (nI p), a5, a6, a7] [.int z'] T2 n1 c s K
  refine q_pop rfl rfl ?_
  refine q_goto rfl ?_
  exact hk θ T2 n1 c s a5 a6 a7 hG2 (jer_add hG hG1 le1 hj e1 e2 rfl rfl) (by omega) (by omega)
set_option maxHeartbeats 4000000 in
theorem k_28 (hL : Ls < 2 ^ 31) : OKJ (JEr) Ls xs K 1242 := by
  intro θ S n c s p a5 a6 a7 hG hj hp hc hs hk
  have hn := gs_n hG
  obtain ⟨fs, k0, -, -, -⟩ := gs_0 hG
  obtain ⟨f9, h43, -⟩ := gs_43 hG
  refine q_aload_n rfl rfl rfl ?_
  refine q_aload_nF rfl rfl rfl ?_
  refine q_iload rfl rfl rfl ?_
  refine q_iconst rfl rfl ?_
  refine q_iadd rfl rfl (q_tn (z := nI (p + 1)) (nI_add p 1) ?_)
  refine q_ialdF rfl rfl (sc_i hp hL (by decide)) (q_tn (sc_v hp hL (by decide)) ?_)
  refine q_cV rfl rfl (Or.inl rfl) rfl rfl rfl rfl (by omega) k0 ⟨Nat.ble_eq_true_of_le (show c + 1 ≤ 601024 by omega), Nat.ble_eq_true_of_le (show s + 6 ≤ 7293033 by omega)⟩ rfl (c2 := c + 1) (s2 := s + 6) rfl rfl rfl rfl (c_toE hG h43) ?_
  rintro r T1 n1 ⟨le1, hG1, e1, z, rfl⟩
  show PQ (j_SL Ls) (j_SV xs) j_EX mm_L_law 1252 [.float 5, .ref 0, .ref 46, .ref 81, .int (nI p), a5, a6, a7] [.int z] T1 n1 (c + 1) (s + 6) K
  have hn1 := gs_n hG1
  obtain ⟨ob, hob, -⟩ := gs_obj hG1 (k := 46) rfl
  refine q_pop rfl rfl ?_
  refine q_aload_n rfl rfl rfl ?_
  refine q_aload_nF rfl rfl rfl ?_
  refine q_iload rfl rfl rfl ?_
  refine q_iconst rfl rfl ?_
  refine q_iadd rfl rfl (q_tn (z := nI (p + 1)) (nI_add p 1) ?_)
  refine q_ialdF rfl rfl (sc_i hp hL (by decide)) (q_tn (sc_v hp hL (by decide)) ?_)
  refine q_cV rfl rfl (Or.inl rfl) rfl rfl rfl rfl (by omega) hob trivial rfl (c2 := (c + 1)) (s2 := (s + 6)) rfl rfl rfl rfl (pm_weak (q_kc w292 [(xs (p + 1)).toInt] hG1 ⟨rfl, ck_oku rfl rfl, trivial⟩ (ck_en_c (fullI _).1 (fullI _).2 ck_en_n) (fun d hd => by cases hd)) (fun r S9 n9 h => ri_of rfl h)) ?_
  rintro r T2 m9 ⟨en, ⟨z', rfl⟩, hG2, e2⟩
  subst m9
  show PQ (j_SL Ls) (j_SV xs) j_EX mm_L_law 1263 [.float 5, .ref 0, .ref 46, .ref 81, .int (nI p), a5, a6, a7] [.int z'] T2 n1 (c + 1) (s + 6) K
  refine q_pop rfl rfl ?_
  refine q_goto rfl ?_
  exact hk θ T2 n1 (c + 1) (s + 6) a5 a6 a7 hG2 (jer_add hG hG1 le1 hj e1 e2 rfl rfl) (by omega) (by omega)
set_option maxHeartbeats 4000000 in
theorem k_4 (hL : Ls < 2 ^ 31) : OKJ JEr Ls xs K 320 := by
  intro θ S n c s p a5 a6 a7 hG hj hp hc hs hk
  have hn := gs_n hG
  refine q_aload_n rfl rfl rfl ?_
  refine q_aload_nF rfl rfl rfl ?_
  refine q_iload rfl rfl rfl ?_
  refine q_iconst rfl rfl ?_
  refine q_iadd rfl rfl (q_tn (z := nI (p + 1)) (nI_add p 1) ?_)
  refine q_ialdF rfl rfl (sc_i hp hL (by decide)) (q_tn (sc_v hp hL (by decide)) ?_)
  refine q_aload_nF rfl rfl rfl ?_
  refine q_iload rfl rfl rfl ?_
  refine q_iconst rfl rfl ?_
  refine q_iadd rfl rfl (q_tn (z := nI (p + 2)) (nI_add p 2) ?_)
  refine q_ialdF rfl rfl (sc_i hp hL (by decide)) (q_tn (sc_v hp hL (by decide)) ?_)
  refine q_aload_nF rfl rfl rfl ?_
  refine q_iload rfl rfl rfl ?_
  refine q_iconst rfl rfl ?_
  refine q_iadd rfl rfl (q_tn (z := nI (p + 3)) (nI_add p 3) ?_)
  refine q_ialdF rfl rfl (sc_i hp hL (by decide)) (q_tn (sc_v hp hL (by decide)) ?_)
  obtain ⟨ob0, hob0, -⟩ := gs_obj hG (k := 0) rfl
  have hn0 := gs_n hG
  refine q_cV rfl rfl (Or.inl rfl) rfl rfl rfl rfl (by omega) hob0 trivial rfl (c2 := c) (s2 := s) rfl rfl rfl rfl (pm_weak (q_kc w29 [((xs (p + 1))).toInt, ((xs (p + 2))).toInt, ((xs (p + 3))).toInt] hG ⟨rfl, ck_oku rfl rfl, ck_oku rfl rfl, ck_oku rfl rfl, trivial⟩ (ck_en_c (fullI _).1 (fullI _).2 (ck_en_c (fullI _).1 (fullI _).2 (ck_en_c (fullI _).1 (fullI _).2 ck_en_n))) (fun d hd => by cases hd)) (fun r S9 n9 h => ri_of rfl h)) ?_
  rintro r T1 _ ⟨rfl, ⟨zT1, rfl⟩, gT1, eT1⟩
  show PQ (j_SL Ls) (j_SV xs) j_EX mm_L_law 342 [.float 5, .ref 0, .ref 46, .ref 81, .int (nI p), a5, a6, a7] [.int zT1] T1 n c s K
  refine q_pop rfl rfl ?_
  refine q_aload_n rfl rfl rfl ?_
  refine q_aload_nF rfl rfl rfl ?_
  refine q_iload rfl rfl rfl ?_
  refine q_iconst rfl rfl ?_
  refine q_iadd rfl rfl (q_tn (z := nI (p + 1)) (nI_add p 1) ?_)
  refine q_ialdF rfl rfl (sc_i hp hL (by decide)) (q_tn (sc_v hp hL (by decide)) ?_)
  refine q_aload_nF rfl rfl rfl ?_
  refine q_iload rfl rfl rfl ?_
  refine q_iconst rfl rfl ?_
  refine q_iadd rfl rfl (q_tn (z := nI (p + 2)) (nI_add p 2) ?_)
  refine q_ialdF rfl rfl (sc_i hp hL (by decide)) (q_tn (sc_v hp hL (by decide)) ?_)
  refine q_aload_nF rfl rfl rfl ?_
  refine q_iload rfl rfl rfl ?_
  refine q_iconst rfl rfl ?_
  refine q_iadd rfl rfl (q_tn (z := nI (p + 3)) (nI_add p 3) ?_)
  refine q_ialdF rfl rfl (sc_i hp hL (by decide)) (q_tn (sc_v hp hL (by decide)) ?_)
  obtain ⟨ob1, hob1, -⟩ := gs_obj gT1 (k := 46) rfl
  have hn1 := gs_n gT1
  refine q_cV rfl rfl (Or.inl rfl) rfl rfl rfl rfl (by omega) hob1 trivial rfl (c2 := c) (s2 := s) rfl rfl rfl rfl (pm_weak (q_kc w178 [((xs (p + 1))).toInt, ((xs (p + 2))).toInt, ((xs (p + 3))).toInt] gT1 ⟨rfl, ck_oku rfl rfl, ck_oku rfl rfl, ck_oku rfl rfl, trivial⟩ (ck_en_c (fullI _).1 (fullI _).2 (ck_en_c (fullI _).1 (fullI _).2 (ck_en_c (fullI _).1 (fullI _).2 ck_en_n))) (fun d hd => by cases hd)) (fun r S9 n9 h => ri_of rfl h)) ?_
  rintro r T2 _ ⟨rfl, ⟨zT2, rfl⟩, gT2, eT2⟩
  show PQ (j_SL Ls) (j_SV xs) j_EX mm_L_law 365 [.float 5, .ref 0, .ref 46, .ref 81, .int (nI p), a5, a6, a7] [.int zT2] T2 n c s K
  refine q_pop rfl rfl ?_
  refine q_goto rfl ?_
  exact hk θ T2 n _ _ _ _ _ gT2 ⟨jar_2 hn hj.1 eT1 eT2 rfl rfl, je_2 hG gT1 hj.2 eT1 eT2 rfl rfl⟩ (by omega) (by omega)
set_option maxHeartbeats 4000000 in
theorem k_7 (hL : Ls < 2 ^ 31) : OKJ JEr Ls xs K 407 := by
  intro θ S n c s p a5 a6 a7 hG hj hp hc hs hk
  have hn := gs_n hG
  refine q_aload_n rfl rfl rfl ?_
  refine q_aload_nF rfl rfl rfl ?_
  refine q_iload rfl rfl rfl ?_
  refine q_iconst rfl rfl ?_
  refine q_iadd rfl rfl (q_tn (z := nI (p + 1)) (nI_add p 1) ?_)
  refine q_ialdF rfl rfl (sc_i hp hL (by decide)) (q_tn (sc_v hp hL (by decide)) ?_)
  refine q_aload_nF rfl rfl rfl ?_
  refine q_iload rfl rfl rfl ?_
  refine q_iconst rfl rfl ?_
  refine q_iadd rfl rfl (q_tn (z := nI (p + 2)) (nI_add p 2) ?_)
  refine q_ialdF rfl rfl (sc_i hp hL (by decide)) (q_tn (sc_v hp hL (by decide)) ?_)
  obtain ⟨ob0, hob0, -⟩ := gs_obj hG (k := 0) rfl
  have hn0 := gs_n hG
  refine q_cV rfl rfl (Or.inl rfl) rfl rfl rfl rfl (by omega) hob0 trivial rfl (c2 := c) (s2 := s) rfl rfl rfl rfl (pm_weak (q_kc w62 [((xs (p + 1))).toInt, ((xs (p + 2))).toInt] hG ⟨rfl, ck_oku rfl rfl, ck_oku rfl rfl, trivial⟩ (ck_en_c (fullI _).1 (fullI _).2 (ck_en_c (fullI _).1 (fullI _).2 ck_en_n)) (fun d hd => by cases hd)) (fun r S9 n9 h => ri_of rfl h)) ?_
  rintro r T1 _ ⟨rfl, ⟨zT1, rfl⟩, gT1, eT1⟩
  show PQ (j_SL Ls) (j_SV xs) j_EX mm_L_law 423 [.float 5, .ref 0, .ref 46, .ref 81, .int (nI p), a5, a6, a7] [.int zT1] T1 n c s K
  refine q_pop rfl rfl ?_
  refine q_aload_n rfl rfl rfl ?_
  refine q_aload_nF rfl rfl rfl ?_
  refine q_iload rfl rfl rfl ?_
  refine q_iconst rfl rfl ?_
  refine q_iadd rfl rfl (q_tn (z := nI (p + 1)) (nI_add p 1) ?_)
  refine q_ialdF rfl rfl (sc_i hp hL (by decide)) (q_tn (sc_v hp hL (by decide)) ?_)
  refine q_aload_nF rfl rfl rfl ?_
  refine q_iload rfl rfl rfl ?_
  refine q_iconst rfl rfl ?_
  refine q_iadd rfl rfl (q_tn (z := nI (p + 2)) (nI_add p 2) ?_)
  refine q_ialdF rfl rfl (sc_i hp hL (by decide)) (q_tn (sc_v hp hL (by decide)) ?_)
  obtain ⟨ob1, hob1, -⟩ := gs_obj gT1 (k := 46) rfl
  have hn1 := gs_n gT1
  refine q_cV rfl rfl (Or.inl rfl) rfl rfl rfl rfl (by omega) hob1 trivial rfl (c2 := c) (s2 := s) rfl rfl rfl rfl (pm_weak (q_kc w196 [((xs (p + 1))).toInt, ((xs (p + 2))).toInt] gT1 ⟨rfl, ck_oku rfl rfl, ck_oku rfl rfl, trivial⟩ (ck_en_c (fullI _).1 (fullI _).2 (ck_en_c (fullI _).1 (fullI _).2 ck_en_n)) (fun d hd => by cases hd)) (fun r S9 n9 h => ri_of rfl h)) ?_
  rintro r T2 _ ⟨rfl, ⟨zT2, rfl⟩, gT2, eT2⟩
  show PQ (j_SL Ls) (j_SV xs) j_EX mm_L_law 440 [.float 5, .ref 0, .ref 46, .ref 81, .int (nI p), a5, a6, a7] [.int zT2] T2 n c s K
  refine q_pop rfl rfl ?_
  refine q_goto rfl ?_
  exact hk θ T2 n _ _ _ _ _ gT2 ⟨jar_2 hn hj.1 eT1 eT2 rfl rfl, je_2 hG gT1 hj.2 eT1 eT2 rfl rfl⟩ (by omega) (by omega)
set_option maxHeartbeats 4000000 in
theorem k_8 (hL : Ls < 2 ^ 31) : OKJ JEr Ls xs K 444 := by
  intro θ S n c s p a5 a6 a7 hG0 hj hp hc hs hk
  have hn := gs_n hG0
  obtain ⟨f, k2, hG⟩ := jar_gy hG0 hj.1
  refine q_aload_n rfl rfl rfl ?_
  refine q_aload_nF rfl rfl rfl ?_
  refine q_iload rfl rfl rfl ?_
  refine q_iconst rfl rfl ?_
  refine q_iadd rfl rfl (q_tn (z := nI (p + 1)) (nI_add p 1) ?_)
  refine q_ialdF rfl rfl (sc_i hp hL (by decide)) (q_tn (sc_v hp hL (by decide)) ?_)
  obtain ⟨ob0, hob0, -⟩ := gs_obj (gj_ab (gy_ab hG).1).1 (k := 0) rfl
  have hn0 := gs_n (gj_ab (gy_ab hG).1).1
  refine q_cV rfl rfl (Or.inl rfl) rfl rfl rfl rfl (by omega) hob0 trivial rfl (c2 := c) (s2 := s) rfl rfl rfl rfl (pm_weak (q_ky wd82 [((xs (p + 1))).toInt] hG ⟨rfl, ck_oku rfl rfl, trivial⟩ (ck_en_c (fullI _).1 (fullI _).2 ck_en_n) (fun d hd => by cases hd)) (fun r S9 n9 h => ry_of rfl h)) ?_
  rintro r T1 _ ⟨rfl, ⟨zT1, rfl⟩, gT1, eT1⟩
  show PQ (j_SL Ls) (j_SV xs) j_EX mm_L_law 454 [.float 5, .ref 0, .ref 46, .ref 81, .int (nI p), a5, a6, a7] [.int zT1] T1 n c s K
  refine q_pop rfl rfl ?_
  refine q_aload_n rfl rfl rfl ?_
  refine q_aload_nF rfl rfl rfl ?_
  refine q_iload rfl rfl rfl ?_
  refine q_iconst rfl rfl ?_
  refine q_iadd rfl rfl (q_tn (z := nI (p + 1)) (nI_add p 1) ?_)
  refine q_ialdF rfl rfl (sc_i hp hL (by decide)) (q_tn (sc_v hp hL (by decide)) ?_)
  obtain ⟨ob1, hob1, -⟩ := gs_obj (gj_ab (gy_ab gT1).1).1 (k := 46) rfl
  have hn1 := gs_n (gj_ab (gy_ab gT1).1).1
  refine q_cV rfl rfl (Or.inl rfl) rfl rfl rfl rfl (by omega) hob1 trivial rfl (c2 := c) (s2 := s) rfl rfl rfl rfl (pm_weak (q_ky wd202 [((xs (p + 1))).toInt] gT1 ⟨rfl, ck_oku rfl rfl, trivial⟩ (ck_en_c (fullI _).1 (fullI _).2 ck_en_n) (fun d hd => by cases hd)) (fun r S9 n9 h => ry_of rfl h)) ?_
  rintro r T2 _ ⟨rfl, ⟨zT2, rfl⟩, gT2, eT2⟩
  show PQ (j_SL Ls) (j_SV xs) j_EX mm_L_law 465 [.float 5, .ref 0, .ref 46, .ref 81, .int (nI p), a5, a6, a7] [.int zT2] T2 n c s K
  refine q_pop rfl rfl ?_
  refine q_goto rfl ?_
  exact hk θ T2 n _ _ _ _ _ (gj_ab (gy_ab gT2).1).1 ⟨jar_back hn hj.1 k2 gT2 eT1 eT2 rfl rfl, je_2 hG0 (gj_ab (gy_ab gT1).1).1 hj.2 eT1 eT2 rfl rfl⟩ (by omega) (by omega)
set_option maxHeartbeats 4000000 in
theorem k_9 (hL : Ls < 2 ^ 31) : OKJ JEr Ls xs K 469 := by
  intro θ S n c s p a5 a6 a7 hG0 hj hp hc hs hk
  have hn := gs_n hG0
  obtain ⟨f, k2, hG⟩ := jar_gy hG0 hj.1
  refine q_aload_n rfl rfl rfl ?_
  refine q_aload_nF rfl rfl rfl ?_
  refine q_iload rfl rfl rfl ?_
  refine q_iconst rfl rfl ?_
  refine q_iadd rfl rfl (q_tn (z := nI (p + 1)) (nI_add p 1) ?_)
  refine q_ialdF rfl rfl (sc_i hp hL (by decide)) (q_tn (sc_v hp hL (by decide)) ?_)
  obtain ⟨ob0, hob0, -⟩ := gs_obj (gj_ab (gy_ab hG).1).1 (k := 0) rfl
  have hn0 := gs_n (gj_ab (gy_ab hG).1).1
  refine q_cV rfl rfl (Or.inl rfl) rfl rfl rfl rfl (by omega) hob0 trivial rfl (c2 := c) (s2 := s) rfl rfl rfl rfl (pm_weak (q_ky wd95 [((xs (p + 1))).toInt] hG ⟨rfl, ck_oku rfl rfl, trivial⟩ (ck_en_c (fullI _).1 (fullI _).2 ck_en_n) (fun d hd => by cases hd)) (fun r S9 n9 h => ry_of rfl h)) ?_
  rintro r T1 _ ⟨rfl, ⟨zT1, rfl⟩, gT1, eT1⟩
  show PQ (j_SL Ls) (j_SV xs) j_EX mm_L_law 479 [.float 5, .ref 0, .ref 46, .ref 81, .int (nI p), a5, a6, a7] [.int zT1] T1 n c s K
  refine q_pop rfl rfl ?_
  refine q_aload_n rfl rfl rfl ?_
  refine q_aload_nF rfl rfl rfl ?_
  refine q_iload rfl rfl rfl ?_
  refine q_iconst rfl rfl ?_
  refine q_iadd rfl rfl (q_tn (z := nI (p + 1)) (nI_add p 1) ?_)
  refine q_ialdF rfl rfl (sc_i hp hL (by decide)) (q_tn (sc_v hp hL (by decide)) ?_)
  obtain ⟨ob1, hob1, -⟩ := gs_obj (gj_ab (gy_ab gT1).1).1 (k := 46) rfl
  have hn1 := gs_n (gj_ab (gy_ab gT1).1).1
  refine q_cV rfl rfl (Or.inl rfl) rfl rfl rfl rfl (by omega) hob1 trivial rfl (c2 := c) (s2 := s) rfl rfl rfl rfl (pm_weak (q_ky wd205 [((xs (p + 1))).toInt] gT1 ⟨rfl, ck_oku rfl rfl, trivial⟩ (ck_en_c (fullI _).1 (fullI _).2 ck_en_n) (fun d hd => by cases hd)) (fun r S9 n9 h => ry_of rfl h)) ?_
  rintro r T2 _ ⟨rfl, ⟨zT2, rfl⟩, gT2, eT2⟩
  show PQ (j_SL Ls) (j_SV xs) j_EX mm_L_law 490 [.float 5, .ref 0, .ref 46, .ref 81, .int (nI p), a5, a6, a7] [.int zT2] T2 n c s K
  refine q_pop rfl rfl ?_
  refine q_goto rfl ?_
  exact hk θ T2 n _ _ _ _ _ (gj_ab (gy_ab gT2).1).1 ⟨jar_back hn hj.1 k2 gT2 eT1 eT2 rfl rfl, je_2 hG0 (gj_ab (gy_ab gT1).1).1 hj.2 eT1 eT2 rfl rfl⟩ (by omega) (by omega)
set_option maxHeartbeats 4000000 in
theorem k_10 (hL : Ls < 2 ^ 31) : OKJ JEr Ls xs K 494 := by
  intro θ S n c s p a5 a6 a7 hG0 hj hp hc hs hk
  have hn := gs_n hG0
  obtain ⟨f, k2, hG⟩ := jar_gy hG0 hj.1
  refine q_aload_n rfl rfl rfl ?_
  refine q_aload_nF rfl rfl rfl ?_
  refine q_iload rfl rfl rfl ?_
  refine q_iconst rfl rfl ?_
  refine q_iadd rfl rfl (q_tn (z := nI (p + 1)) (nI_add p 1) ?_)
  refine q_ialdF rfl rfl (sc_i hp hL (by decide)) (q_tn (sc_v hp hL (by decide)) ?_)
  refine q_aload_nF rfl rfl rfl ?_
  refine q_iload rfl rfl rfl ?_
  refine q_iconst rfl rfl ?_
  refine q_iadd rfl rfl (q_tn (z := nI (p + 2)) (nI_add p 2) ?_)
  refine q_ialdF rfl rfl (sc_i hp hL (by decide)) (q_tn (sc_v hp hL (by decide)) ?_)
  obtain ⟨ob0, hob0, -⟩ := gs_obj (gj_ab (gy_ab hG).1).1 (k := 0) rfl
  have hn0 := gs_n (gj_ab (gy_ab hG).1).1
  refine q_cV rfl rfl (Or.inl rfl) rfl rfl rfl rfl (by omega) hob0 trivial rfl (c2 := c) (s2 := s) rfl rfl rfl rfl (pm_weak (q_ky wd96 [((xs (p + 1))).toInt, ((xs (p + 2))).toInt] hG ⟨rfl, ck_oku rfl rfl, ck_oku rfl rfl, trivial⟩ (ck_en_c (fullI _).1 (fullI _).2 (ck_en_c (fullI _).1 (fullI _).2 ck_en_n)) (fun d hd => by cases hd)) (fun r S9 n9 h => ry_of rfl h)) ?_
  rintro r T1 _ ⟨rfl, ⟨zT1, rfl⟩, gT1, eT1⟩
  show PQ (j_SL Ls) (j_SV xs) j_EX mm_L_law 510 [.float 5, .ref 0, .ref 46, .ref 81, .int (nI p), a5, a6, a7] [.int zT1] T1 n c s K
  refine q_pop rfl rfl ?_
  refine q_aload_n rfl rfl rfl ?_
  refine q_aload_nF rfl rfl rfl ?_
  refine q_iload rfl rfl rfl ?_
  refine q_iconst rfl rfl ?_
  refine q_iadd rfl rfl (q_tn (z := nI (p + 1)) (nI_add p 1) ?_)
  refine q_ialdF rfl rfl (sc_i hp hL (by decide)) (q_tn (sc_v hp hL (by decide)) ?_)
  refine q_aload_nF rfl rfl rfl ?_
  refine q_iload rfl rfl rfl ?_
  refine q_iconst rfl rfl ?_
  refine q_iadd rfl rfl (q_tn (z := nI (p + 2)) (nI_add p 2) ?_)
  refine q_ialdF rfl rfl (sc_i hp hL (by decide)) (q_tn (sc_v hp hL (by decide)) ?_)
  obtain ⟨ob1, hob1, -⟩ := gs_obj (gj_ab (gy_ab gT1).1).1 (k := 46) rfl
  have hn1 := gs_n (gj_ab (gy_ab gT1).1).1
  refine q_cV rfl rfl (Or.inl rfl) rfl rfl rfl rfl (by omega) hob1 trivial rfl (c2 := c) (s2 := s) rfl rfl rfl rfl (pm_weak (q_ky wd206 [((xs (p + 1))).toInt, ((xs (p + 2))).toInt] gT1 ⟨rfl, ck_oku rfl rfl, ck_oku rfl rfl, trivial⟩ (ck_en_c (fullI _).1 (fullI _).2 (ck_en_c (fullI _).1 (fullI _).2 ck_en_n)) (fun d hd => by cases hd)) (fun r S9 n9 h => ry_of rfl h)) ?_
  rintro r T2 _ ⟨rfl, ⟨zT2, rfl⟩, gT2, eT2⟩
  show PQ (j_SL Ls) (j_SV xs) j_EX mm_L_law 527 [.float 5, .ref 0, .ref 46, .ref 81, .int (nI p), a5, a6, a7] [.int zT2] T2 n c s K
  refine q_pop rfl rfl ?_
  refine q_goto rfl ?_
  exact hk θ T2 n _ _ _ _ _ (gj_ab (gy_ab gT2).1).1 ⟨jar_back hn hj.1 k2 gT2 eT1 eT2 rfl rfl, je_2 hG0 (gj_ab (gy_ab gT1).1).1 hj.2 eT1 eT2 rfl rfl⟩ (by omega) (by omega)
set_option maxHeartbeats 4000000 in
theorem k_11 (hL : Ls < 2 ^ 31) : OKJ JEr Ls xs K 531 := by
  intro θ S n c s p a5 a6 a7 hG0 hj hp hc hs hk
  have hn := gs_n hG0
  obtain ⟨f, k2, hG⟩ := jar_gy hG0 hj.1
  refine q_aload_n rfl rfl rfl ?_
  refine q_aload_nF rfl rfl rfl ?_
  refine q_iload rfl rfl rfl ?_
  refine q_iconst rfl rfl ?_
  refine q_iadd rfl rfl (q_tn (z := nI (p + 1)) (nI_add p 1) ?_)
  refine q_ialdF rfl rfl (sc_i hp hL (by decide)) (q_tn (sc_v hp hL (by decide)) ?_)
  obtain ⟨ob0, hob0, -⟩ := gs_obj (gj_ab (gy_ab hG).1).1 (k := 0) rfl
  have hn0 := gs_n (gj_ab (gy_ab hG).1).1
  refine q_cV rfl rfl (Or.inl rfl) rfl rfl rfl rfl (by omega) hob0 trivial rfl (c2 := c) (s2 := s) rfl rfl rfl rfl (pm_weak (q_ky wd99 [((xs (p + 1))).toInt] hG ⟨rfl, ck_oku rfl rfl, trivial⟩ (ck_en_c (fullI _).1 (fullI _).2 ck_en_n) (fun d hd => by cases hd)) (fun r S9 n9 h => ry_of rfl h)) ?_
  rintro r T1 _ ⟨rfl, ⟨zT1, rfl⟩, gT1, eT1⟩
  show PQ (j_SL Ls) (j_SV xs) j_EX mm_L_law 541 [.float 5, .ref 0, .ref 46, .ref 81, .int (nI p), a5, a6, a7] [.int zT1] T1 n c s K
  refine q_pop rfl rfl ?_
  refine q_aload_n rfl rfl rfl ?_
  refine q_aload_nF rfl rfl rfl ?_
  refine q_iload rfl rfl rfl ?_
  refine q_iconst rfl rfl ?_
  refine q_iadd rfl rfl (q_tn (z := nI (p + 1)) (nI_add p 1) ?_)
  refine q_ialdF rfl rfl (sc_i hp hL (by decide)) (q_tn (sc_v hp hL (by decide)) ?_)
  obtain ⟨ob1, hob1, -⟩ := gs_obj (gj_ab (gy_ab gT1).1).1 (k := 46) rfl
  have hn1 := gs_n (gj_ab (gy_ab gT1).1).1
  refine q_cV rfl rfl (Or.inl rfl) rfl rfl rfl rfl (by omega) hob1 trivial rfl (c2 := c) (s2 := s) rfl rfl rfl rfl (pm_weak (q_ky wd208 [((xs (p + 1))).toInt] gT1 ⟨rfl, ck_oku rfl rfl, trivial⟩ (ck_en_c (fullI _).1 (fullI _).2 ck_en_n) (fun d hd => by cases hd)) (fun r S9 n9 h => ry_of rfl h)) ?_
  rintro r T2 _ ⟨rfl, ⟨zT2, rfl⟩, gT2, eT2⟩
  show PQ (j_SL Ls) (j_SV xs) j_EX mm_L_law 552 [.float 5, .ref 0, .ref 46, .ref 81, .int (nI p), a5, a6, a7] [.int zT2] T2 n c s K
  refine q_pop rfl rfl ?_
  refine q_goto rfl ?_
  exact hk θ T2 n _ _ _ _ _ (gj_ab (gy_ab gT2).1).1 ⟨jar_back hn hj.1 k2 gT2 eT1 eT2 rfl rfl, je_2 hG0 (gj_ab (gy_ab gT1).1).1 hj.2 eT1 eT2 rfl rfl⟩ (by omega) (by omega)
set_option maxHeartbeats 4000000 in
theorem k_12 (hL : Ls < 2 ^ 31) : OKJ JEr Ls xs K 556 := by
  intro θ S n c s p a5 a6 a7 hG0 hj hp hc hs hk
  have hn := gs_n hG0
  obtain ⟨f, k2, hG⟩ := jar_gy hG0 hj.1
  refine q_aload_n rfl rfl rfl ?_
  refine q_aload_nF rfl rfl rfl ?_
  refine q_iload rfl rfl rfl ?_
  refine q_iconst rfl rfl ?_
  refine q_iadd rfl rfl (q_tn (z := nI (p + 1)) (nI_add p 1) ?_)
  refine q_ialdF rfl rfl (sc_i hp hL (by decide)) (q_tn (sc_v hp hL (by decide)) ?_)
  refine q_aload_nF rfl rfl rfl ?_
  refine q_iload rfl rfl rfl ?_
  refine q_iconst rfl rfl ?_
  refine q_iadd rfl rfl (q_tn (z := nI (p + 2)) (nI_add p 2) ?_)
  refine q_ialdF rfl rfl (sc_i hp hL (by decide)) (q_tn (sc_v hp hL (by decide)) ?_)
  obtain ⟨ob0, hob0, -⟩ := gs_obj (gj_ab (gy_ab hG).1).1 (k := 0) rfl
  have hn0 := gs_n (gj_ab (gy_ab hG).1).1
  refine q_cV rfl rfl (Or.inl rfl) rfl rfl rfl rfl (by omega) hob0 trivial rfl (c2 := c) (s2 := s) rfl rfl rfl rfl (pm_weak (q_ky wd101 [((xs (p + 1))).toInt, ((xs (p + 2))).toInt] hG ⟨rfl, ck_oku rfl rfl, ck_oku rfl rfl, trivial⟩ (ck_en_c (fullI _).1 (fullI _).2 (ck_en_c (fullI _).1 (fullI _).2 ck_en_n)) (fun d hd => by cases hd)) (fun r S9 n9 h => ry_of rfl h)) ?_
  rintro r T1 _ ⟨rfl, ⟨zT1, rfl⟩, gT1, eT1⟩
  show PQ (j_SL Ls) (j_SV xs) j_EX mm_L_law 572 [.float 5, .ref 0, .ref 46, .ref 81, .int (nI p), a5, a6, a7] [.int zT1] T1 n c s K
  refine q_pop rfl rfl ?_
  refine q_aload_n rfl rfl rfl ?_
  refine q_aload_nF rfl rfl rfl ?_
  refine q_iload rfl rfl rfl ?_
  refine q_iconst rfl rfl ?_
  refine q_iadd rfl rfl (q_tn (z := nI (p + 1)) (nI_add p 1) ?_)
  refine q_ialdF rfl rfl (sc_i hp hL (by decide)) (q_tn (sc_v hp hL (by decide)) ?_)
  refine q_aload_nF rfl rfl rfl ?_
  refine q_iload rfl rfl rfl ?_
  refine q_iconst rfl rfl ?_
  refine q_iadd rfl rfl (q_tn (z := nI (p + 2)) (nI_add p 2) ?_)
  refine q_ialdF rfl rfl (sc_i hp hL (by decide)) (q_tn (sc_v hp hL (by decide)) ?_)
  obtain ⟨ob1, hob1, -⟩ := gs_obj (gj_ab (gy_ab gT1).1).1 (k := 46) rfl
  have hn1 := gs_n (gj_ab (gy_ab gT1).1).1
  refine q_cV rfl rfl (Or.inl rfl) rfl rfl rfl rfl (by omega) hob1 trivial rfl (c2 := c) (s2 := s) rfl rfl rfl rfl (pm_weak (q_ky wd_step0 [((xs (p + 1))).toInt, ((xs (p + 2))).toInt] gT1 ⟨rfl, ck_oku rfl rfl, ck_oku rfl rfl, trivial⟩ (ck_en_c (fullI _).1 (fullI _).2 (ck_en_c (fullI _).1 (fullI _).2 ck_en_n)) (fun d hd => by cases hd)) (fun r S9 n9 h => ry_of rfl h)) ?_
  rintro r T2 _ ⟨rfl, ⟨zT2, rfl⟩, gT2, eT2⟩
  show PQ (j_SL Ls) (j_SV xs) j_EX mm_L_law 589 [.float 5, .ref 0, .ref 46, .ref 81, .int (nI p), a5, a6, a7] [.int zT2] T2 n c s K
  refine q_pop rfl rfl ?_
  refine q_goto rfl ?_
  exact hk θ T2 n _ _ _ _ _ (gj_ab (gy_ab gT2).1).1 ⟨jar_back hn hj.1 k2 gT2 eT1 eT2 rfl rfl, je_2 hG0 (gj_ab (gy_ab gT1).1).1 hj.2 eT1 eT2 rfl rfl⟩ (by omega) (by omega)
set_option maxHeartbeats 4000000 in
theorem k_14 (hL : Ls < 2 ^ 31) : OKJ JEr Ls xs K 618 := by
  intro θ S n c s p a5 a6 a7 hG0 hj hp hc hs hk
  have hn := gs_n hG0
  obtain ⟨f, k2, hG⟩ := jar_gy hG0 hj.1
  refine q_aload_n rfl rfl rfl ?_
  refine q_aload_nF rfl rfl rfl ?_
  refine q_iload rfl rfl rfl ?_
  refine q_iconst rfl rfl ?_
  refine q_iadd rfl rfl (q_tn (z := nI (p + 1)) (nI_add p 1) ?_)
  refine q_ialdF rfl rfl (sc_i hp hL (by decide)) (q_tn (sc_v hp hL (by decide)) ?_)
  refine q_aload_nF rfl rfl rfl ?_
  refine q_iload rfl rfl rfl ?_
  refine q_iconst rfl rfl ?_
  refine q_iadd rfl rfl (q_tn (z := nI (p + 2)) (nI_add p 2) ?_)
  refine q_ialdF rfl rfl (sc_i hp hL (by decide)) (q_tn (sc_v hp hL (by decide)) ?_)
  obtain ⟨ob0, hob0, -⟩ := gs_obj (gj_ab (gy_ab hG).1).1 (k := 0) rfl
  have hn0 := gs_n (gj_ab (gy_ab hG).1).1
  refine q_cV rfl rfl (Or.inl rfl) rfl rfl rfl rfl (by omega) hob0 trivial rfl (c2 := c) (s2 := s) rfl rfl rfl rfl (pm_weak (q_ky wd107 [((xs (p + 1))).toInt, ((xs (p + 2))).toInt] hG ⟨rfl, ck_oku rfl rfl, ck_oku rfl rfl, trivial⟩ (ck_en_c (fullI _).1 (fullI _).2 (ck_en_c (fullI _).1 (fullI _).2 ck_en_n)) (fun d hd => by cases hd)) (fun r S9 n9 h => ry_of rfl h)) ?_
  rintro r T1 _ ⟨rfl, ⟨zT1, rfl⟩, gT1, eT1⟩
  show PQ (j_SL Ls) (j_SV xs) j_EX mm_L_law 634 [.float 5, .ref 0, .ref 46, .ref 81, .int (nI p), a5, a6, a7] [.int zT1] T1 n c s K
  refine q_pop rfl rfl ?_
  refine q_aload_n rfl rfl rfl ?_
  refine q_aload_nF rfl rfl rfl ?_
  refine q_iload rfl rfl rfl ?_
  refine q_iconst rfl rfl ?_
  refine q_iadd rfl rfl (q_tn (z := nI (p + 1)) (nI_add p 1) ?_)
  refine q_ialdF rfl rfl (sc_i hp hL (by decide)) (q_tn (sc_v hp hL (by decide)) ?_)
  refine q_aload_nF rfl rfl rfl ?_
  refine q_iload rfl rfl rfl ?_
  refine q_iconst rfl rfl ?_
  refine q_iadd rfl rfl (q_tn (z := nI (p + 2)) (nI_add p 2) ?_)
  refine q_ialdF rfl rfl (sc_i hp hL (by decide)) (q_tn (sc_v hp hL (by decide)) ?_)
  obtain ⟨ob1, hob1, -⟩ := gs_obj (gj_ab (gy_ab gT1).1).1 (k := 46) rfl
  have hn1 := gs_n (gj_ab (gy_ab gT1).1).1
  refine q_cV rfl rfl (Or.inl rfl) rfl rfl rfl rfl (by omega) hob1 trivial rfl (c2 := c) (s2 := s) rfl rfl rfl rfl (pm_weak (q_ky wd211 [((xs (p + 1))).toInt, ((xs (p + 2))).toInt] gT1 ⟨rfl, ck_oku rfl rfl, ck_oku rfl rfl, trivial⟩ (ck_en_c (fullI _).1 (fullI _).2 (ck_en_c (fullI _).1 (fullI _).2 ck_en_n)) (fun d hd => by cases hd)) (fun r S9 n9 h => ry_of rfl h)) ?_
  rintro r T2 _ ⟨rfl, ⟨zT2, rfl⟩, gT2, eT2⟩
  show PQ (j_SL Ls) (j_SV xs) j_EX mm_L_law 651 [.float 5, .ref 0, .ref 46, .ref 81, .int (nI p), a5, a6, a7] [.int zT2] T2 n c s K
  refine q_pop rfl rfl ?_
  refine q_goto rfl ?_
  exact hk θ T2 n _ _ _ _ _ (gj_ab (gy_ab gT2).1).1 ⟨jar_back hn hj.1 k2 gT2 eT1 eT2 rfl rfl, je_2 hG0 (gj_ab (gy_ab gT1).1).1 hj.2 eT1 eT2 rfl rfl⟩ (by omega) (by omega)
set_option maxHeartbeats 4000000 in
theorem k_15 (hL : Ls < 2 ^ 31) : OKJ JEr Ls xs K 655 := by
  intro θ S n c s p a5 a6 a7 hG0 hj hp hc hs hk
  have hn := gs_n hG0
  obtain ⟨f, k2, hG⟩ := jar_gy hG0 hj.1
  refine q_aload_n rfl rfl rfl ?_
  refine q_aload_nF rfl rfl rfl ?_
  refine q_iload rfl rfl rfl ?_
  refine q_iconst rfl rfl ?_
  refine q_iadd rfl rfl (q_tn (z := nI (p + 1)) (nI_add p 1) ?_)
  refine q_ialdF rfl rfl (sc_i hp hL (by decide)) (q_tn (sc_v hp hL (by decide)) ?_)
  refine q_aload_nF rfl rfl rfl ?_
  refine q_iload rfl rfl rfl ?_
  refine q_iconst rfl rfl ?_
  refine q_iadd rfl rfl (q_tn (z := nI (p + 2)) (nI_add p 2) ?_)
  refine q_ialdF rfl rfl (sc_i hp hL (by decide)) (q_tn (sc_v hp hL (by decide)) ?_)
  refine q_aload_nF rfl rfl rfl ?_
  refine q_iload rfl rfl rfl ?_
  refine q_iconst rfl rfl ?_
  refine q_iadd rfl rfl (q_tn (z := nI (p + 3)) (nI_add p 3) ?_)
  refine q_ialdF rfl rfl (sc_i hp hL (by decide)) (q_tn (sc_v hp hL (by decide)) ?_)
  refine q_aload_nF rfl rfl rfl ?_
  refine q_iload rfl rfl rfl ?_
  refine q_iconst rfl rfl ?_
  refine q_iadd rfl rfl (q_tn (z := nI (p + 4)) (nI_add p 4) ?_)
  refine q_ialdF rfl rfl (sc_i hp hL (by decide)) (q_tn (sc_v hp hL (by decide)) ?_)
  obtain ⟨ob0, hob0, -⟩ := gs_obj (gj_ab (gy_ab hG).1).1 (k := 0) rfl
  have hn0 := gs_n (gj_ab (gy_ab hG).1).1
  refine q_cV rfl rfl (Or.inl rfl) rfl rfl rfl rfl (by omega) hob0 trivial rfl (c2 := c) (s2 := s) rfl rfl rfl rfl (pm_weak (q_ky wd108 [((xs (p + 1))).toInt, ((xs (p + 2))).toInt, ((xs (p + 3))).toInt, ((xs (p + 4))).toInt] hG ⟨rfl, ck_oku rfl rfl, ck_oku rfl rfl, ck_oku rfl rfl, ck_oku rfl rfl, trivial⟩ (ck_en_c (fullI _).1 (fullI _).2 (ck_en_c (fullI _).1 (fullI _).2 (ck_en_c (fullI _).1 (fullI _).2 (ck_en_c (fullI _).1 (fullI _).2 ck_en_n)))) (fun d hd => by cases hd)) (fun r S9 n9 h => ry_of rfl h)) ?_
  rintro r T1 _ ⟨rfl, ⟨zT1, rfl⟩, gT1, eT1⟩
  show PQ (j_SL Ls) (j_SV xs) j_EX mm_L_law 683 [.float 5, .ref 0, .ref 46, .ref 81, .int (nI p), a5, a6, a7] [.int zT1] T1 n c s K
  refine q_pop rfl rfl ?_
  refine q_aload_n rfl rfl rfl ?_
  refine q_aload_nF rfl rfl rfl ?_
  refine q_iload rfl rfl rfl ?_
  refine q_iconst rfl rfl ?_
  refine q_iadd rfl rfl (q_tn (z := nI (p + 1)) (nI_add p 1) ?_)
  refine q_ialdF rfl rfl (sc_i hp hL (by decide)) (q_tn (sc_v hp hL (by decide)) ?_)
  refine q_aload_nF rfl rfl rfl ?_
  refine q_iload rfl rfl rfl ?_
  refine q_iconst rfl rfl ?_
  refine q_iadd rfl rfl (q_tn (z := nI (p + 2)) (nI_add p 2) ?_)
  refine q_ialdF rfl rfl (sc_i hp hL (by decide)) (q_tn (sc_v hp hL (by decide)) ?_)
  refine q_aload_nF rfl rfl rfl ?_
  refine q_iload rfl rfl rfl ?_
  refine q_iconst rfl rfl ?_
  refine q_iadd rfl rfl (q_tn (z := nI (p + 3)) (nI_add p 3) ?_)
  refine q_ialdF rfl rfl (sc_i hp hL (by decide)) (q_tn (sc_v hp hL (by decide)) ?_)
  refine q_aload_nF rfl rfl rfl ?_
  refine q_iload rfl rfl rfl ?_
  refine q_iconst rfl rfl ?_
  refine q_iadd rfl rfl (q_tn (z := nI (p + 4)) (nI_add p 4) ?_)
  refine q_ialdF rfl rfl (sc_i hp hL (by decide)) (q_tn (sc_v hp hL (by decide)) ?_)
  obtain ⟨ob1, hob1, -⟩ := gs_obj (gj_ab (gy_ab gT1).1).1 (k := 46) rfl
  have hn1 := gs_n (gj_ab (gy_ab gT1).1).1
  refine q_cV rfl rfl (Or.inl rfl) rfl rfl rfl rfl (by omega) hob1 trivial rfl (c2 := c) (s2 := s) rfl rfl rfl rfl (pm_weak (q_ky wd212 [((xs (p + 1))).toInt, ((xs (p + 2))).toInt, ((xs (p + 3))).toInt, ((xs (p + 4))).toInt] gT1 ⟨rfl, ck_oku rfl rfl, ck_oku rfl rfl, ck_oku rfl rfl, ck_oku rfl rfl, trivial⟩ (ck_en_c (fullI _).1 (fullI _).2 (ck_en_c (fullI _).1 (fullI _).2 (ck_en_c (fullI _).1 (fullI _).2 (ck_en_c (fullI _).1 (fullI _).2 ck_en_n)))) (fun d hd => by cases hd)) (fun r S9 n9 h => ry_of rfl h)) ?_
  rintro r T2 _ ⟨rfl, ⟨zT2, rfl⟩, gT2, eT2⟩
  show PQ (j_SL Ls) (j_SV xs) j_EX mm_L_law 712 [.float 5, .ref 0, .ref 46, .ref 81, .int (nI p), a5, a6, a7] [.int zT2] T2 n c s K
  refine q_pop rfl rfl ?_
  refine q_goto rfl ?_
  exact hk θ T2 n _ _ _ _ _ (gj_ab (gy_ab gT2).1).1 ⟨jar_back hn hj.1 k2 gT2 eT1 eT2 rfl rfl, je_2 hG0 (gj_ab (gy_ab gT1).1).1 hj.2 eT1 eT2 rfl rfl⟩ (by omega) (by omega)
set_option maxHeartbeats 4000000 in
theorem k_16 (hL : Ls < 2 ^ 31) : OKJ JEr Ls xs K 716 := by
  intro θ S n c s p a5 a6 a7 hG0 hj hp hc hs hk
  have hn := gs_n hG0
  obtain ⟨f, k2, hG⟩ := jar_gy hG0 hj.1
  refine q_aload_n rfl rfl rfl ?_
  refine q_aload_nF rfl rfl rfl ?_
  refine q_iload rfl rfl rfl ?_
  refine q_iconst rfl rfl ?_
  refine q_iadd rfl rfl (q_tn (z := nI (p + 1)) (nI_add p 1) ?_)
  refine q_ialdF rfl rfl (sc_i hp hL (by decide)) (q_tn (sc_v hp hL (by decide)) ?_)
  refine q_aload_nF rfl rfl rfl ?_
  refine q_iload rfl rfl rfl ?_
  refine q_iconst rfl rfl ?_
  refine q_iadd rfl rfl (q_tn (z := nI (p + 2)) (nI_add p 2) ?_)
  refine q_ialdF rfl rfl (sc_i hp hL (by decide)) (q_tn (sc_v hp hL (by decide)) ?_)
  refine q_aload_nF rfl rfl rfl ?_
  refine q_iload rfl rfl rfl ?_
  refine q_iconst rfl rfl ?_
  refine q_iadd rfl rfl (q_tn (z := nI (p + 3)) (nI_add p 3) ?_)
  refine q_ialdF rfl rfl (sc_i hp hL (by decide)) (q_tn (sc_v hp hL (by decide)) ?_)
  obtain ⟨ob0, hob0, -⟩ := gs_obj (gj_ab (gy_ab hG).1).1 (k := 0) rfl
  have hn0 := gs_n (gj_ab (gy_ab hG).1).1
  refine q_cV rfl rfl (Or.inl rfl) rfl rfl rfl rfl (by omega) hob0 trivial rfl (c2 := c) (s2 := s) rfl rfl rfl rfl (pm_weak (q_ky wd110 [((xs (p + 1))).toInt, ((xs (p + 2))).toInt, ((xs (p + 3))).toInt] hG ⟨rfl, ck_oku rfl rfl, ck_oku rfl rfl, ck_oku rfl rfl, trivial⟩ (ck_en_c (fullI _).1 (fullI _).2 (ck_en_c (fullI _).1 (fullI _).2 (ck_en_c (fullI _).1 (fullI _).2 ck_en_n))) (fun d hd => by cases hd)) (fun r S9 n9 h => ry_of rfl h)) ?_
  rintro r T1 _ ⟨rfl, ⟨zT1, rfl⟩, gT1, eT1⟩
  show PQ (j_SL Ls) (j_SV xs) j_EX mm_L_law 738 [.float 5, .ref 0, .ref 46, .ref 81, .int (nI p), a5, a6, a7] [.int zT1] T1 n c s K
  refine q_pop rfl rfl ?_
  refine q_aload_n rfl rfl rfl ?_
  refine q_aload_nF rfl rfl rfl ?_
  refine q_iload rfl rfl rfl ?_
  refine q_iconst rfl rfl ?_
  refine q_iadd rfl rfl (q_tn (z := nI (p + 1)) (nI_add p 1) ?_)
  refine q_ialdF rfl rfl (sc_i hp hL (by decide)) (q_tn (sc_v hp hL (by decide)) ?_)
  refine q_aload_nF rfl rfl rfl ?_
  refine q_iload rfl rfl rfl ?_
  refine q_iconst rfl rfl ?_
  refine q_iadd rfl rfl (q_tn (z := nI (p + 2)) (nI_add p 2) ?_)
  refine q_ialdF rfl rfl (sc_i hp hL (by decide)) (q_tn (sc_v hp hL (by decide)) ?_)
  refine q_aload_nF rfl rfl rfl ?_
  refine q_iload rfl rfl rfl ?_
  refine q_iconst rfl rfl ?_
  refine q_iadd rfl rfl (q_tn (z := nI (p + 3)) (nI_add p 3) ?_)
  refine q_ialdF rfl rfl (sc_i hp hL (by decide)) (q_tn (sc_v hp hL (by decide)) ?_)
  obtain ⟨ob1, hob1, -⟩ := gs_obj (gj_ab (gy_ab gT1).1).1 (k := 46) rfl
  have hn1 := gs_n (gj_ab (gy_ab gT1).1).1
  refine q_cV rfl rfl (Or.inl rfl) rfl rfl rfl rfl (by omega) hob1 trivial rfl (c2 := c) (s2 := s) rfl rfl rfl rfl (pm_weak (q_ky wd213 [((xs (p + 1))).toInt, ((xs (p + 2))).toInt, ((xs (p + 3))).toInt] gT1 ⟨rfl, ck_oku rfl rfl, ck_oku rfl rfl, ck_oku rfl rfl, trivial⟩ (ck_en_c (fullI _).1 (fullI _).2 (ck_en_c (fullI _).1 (fullI _).2 (ck_en_c (fullI _).1 (fullI _).2 ck_en_n))) (fun d hd => by cases hd)) (fun r S9 n9 h => ry_of rfl h)) ?_
  rintro r T2 _ ⟨rfl, ⟨zT2, rfl⟩, gT2, eT2⟩
  show PQ (j_SL Ls) (j_SV xs) j_EX mm_L_law 761 [.float 5, .ref 0, .ref 46, .ref 81, .int (nI p), a5, a6, a7] [.int zT2] T2 n c s K
  refine q_pop rfl rfl ?_
  refine q_goto rfl ?_
  exact hk θ T2 n _ _ _ _ _ (gj_ab (gy_ab gT2).1).1 ⟨jar_back hn hj.1 k2 gT2 eT1 eT2 rfl rfl, je_2 hG0 (gj_ab (gy_ab gT1).1).1 hj.2 eT1 eT2 rfl rfl⟩ (by omega) (by omega)
set_option maxHeartbeats 4000000 in
theorem k_17 (hL : Ls < 2 ^ 31) : OKJ JEr Ls xs K 765 := by
  intro θ S n c s p a5 a6 a7 hG0 hj hp hc hs hk
  have hn := gs_n hG0
  obtain ⟨f, k2, hG⟩ := jar_gy hG0 hj.1
  refine q_aload_n rfl rfl rfl ?_
  refine q_aload_nF rfl rfl rfl ?_
  refine q_iload rfl rfl rfl ?_
  refine q_iconst rfl rfl ?_
  refine q_iadd rfl rfl (q_tn (z := nI (p + 1)) (nI_add p 1) ?_)
  refine q_ialdF rfl rfl (sc_i hp hL (by decide)) (q_tn (sc_v hp hL (by decide)) ?_)
  refine q_aload_nF rfl rfl rfl ?_
  refine q_iload rfl rfl rfl ?_
  refine q_iconst rfl rfl ?_
  refine q_iadd rfl rfl (q_tn (z := nI (p + 2)) (nI_add p 2) ?_)
  refine q_ialdF rfl rfl (sc_i hp hL (by decide)) (q_tn (sc_v hp hL (by decide)) ?_)
  refine q_aload_nF rfl rfl rfl ?_
  refine q_iload rfl rfl rfl ?_
  refine q_iconst rfl rfl ?_
  refine q_iadd rfl rfl (q_tn (z := nI (p + 3)) (nI_add p 3) ?_)
  refine q_ialdF rfl rfl (sc_i hp hL (by decide)) (q_tn (sc_v hp hL (by decide)) ?_)
  obtain ⟨ob0, hob0, -⟩ := gs_obj (gj_ab (gy_ab hG).1).1 (k := 0) rfl
  have hn0 := gs_n (gj_ab (gy_ab hG).1).1
  refine q_cV rfl rfl (Or.inl rfl) rfl rfl rfl rfl (by omega) hob0 trivial rfl (c2 := c) (s2 := s) rfl rfl rfl rfl (pm_weak (q_ky wd144 [((xs (p + 1))).toInt, ((xs (p + 2))).toInt, ((xs (p + 3))).toInt] hG ⟨rfl, ck_oku rfl rfl, ck_oku rfl rfl, ck_oku rfl rfl, trivial⟩ (ck_en_c (fullI _).1 (fullI _).2 (ck_en_c (fullI _).1 (fullI _).2 (ck_en_c (fullI _).1 (fullI _).2 ck_en_n))) (fun d hd => by cases hd)) (fun r S9 n9 h => ry_of rfl h)) ?_
  rintro r T1 _ ⟨rfl, ⟨zT1, rfl⟩, gT1, eT1⟩
  show PQ (j_SL Ls) (j_SV xs) j_EX mm_L_law 787 [.float 5, .ref 0, .ref 46, .ref 81, .int (nI p), a5, a6, a7] [.int zT1] T1 n c s K
  refine q_pop rfl rfl ?_
  refine q_aload_n rfl rfl rfl ?_
  refine q_aload_nF rfl rfl rfl ?_
  refine q_iload rfl rfl rfl ?_
  refine q_iconst rfl rfl ?_
  refine q_iadd rfl rfl (q_tn (z := nI (p + 1)) (nI_add p 1) ?_)
  refine q_ialdF rfl rfl (sc_i hp hL (by decide)) (q_tn (sc_v hp hL (by decide)) ?_)
  refine q_aload_nF rfl rfl rfl ?_
  refine q_iload rfl rfl rfl ?_
  refine q_iconst rfl rfl ?_
  refine q_iadd rfl rfl (q_tn (z := nI (p + 2)) (nI_add p 2) ?_)
  refine q_ialdF rfl rfl (sc_i hp hL (by decide)) (q_tn (sc_v hp hL (by decide)) ?_)
  refine q_aload_nF rfl rfl rfl ?_
  refine q_iload rfl rfl rfl ?_
  refine q_iconst rfl rfl ?_
  refine q_iadd rfl rfl (q_tn (z := nI (p + 3)) (nI_add p 3) ?_)
  refine q_ialdF rfl rfl (sc_i hp hL (by decide)) (q_tn (sc_v hp hL (by decide)) ?_)
  obtain ⟨ob1, hob1, -⟩ := gs_obj (gj_ab (gy_ab gT1).1).1 (k := 46) rfl
  have hn1 := gs_n (gj_ab (gy_ab gT1).1).1
  refine q_cV rfl rfl (Or.inl rfl) rfl rfl rfl rfl (by omega) hob1 trivial rfl (c2 := c) (s2 := s) rfl rfl rfl rfl (pm_weak (q_ky wd264 [((xs (p + 1))).toInt, ((xs (p + 2))).toInt, ((xs (p + 3))).toInt] gT1 ⟨rfl, ck_oku rfl rfl, ck_oku rfl rfl, ck_oku rfl rfl, trivial⟩ (ck_en_c (fullI _).1 (fullI _).2 (ck_en_c (fullI _).1 (fullI _).2 (ck_en_c (fullI _).1 (fullI _).2 ck_en_n))) (fun d hd => by cases hd)) (fun r S9 n9 h => ry_of rfl h)) ?_
  rintro r T2 _ ⟨rfl, ⟨zT2, rfl⟩, gT2, eT2⟩
  show PQ (j_SL Ls) (j_SV xs) j_EX mm_L_law 810 [.float 5, .ref 0, .ref 46, .ref 81, .int (nI p), a5, a6, a7] [.int zT2] T2 n c s K
  refine q_pop rfl rfl ?_
  refine q_goto rfl ?_
  exact hk θ T2 n _ _ _ _ _ (gj_ab (gy_ab gT2).1).1 ⟨jar_back hn hj.1 k2 gT2 eT1 eT2 rfl rfl, je_2 hG0 (gj_ab (gy_ab gT1).1).1 hj.2 eT1 eT2 rfl rfl⟩ (by omega) (by omega)
set_option maxHeartbeats 4000000 in
theorem k_18 (hL : Ls < 2 ^ 31) : OKJ JEr Ls xs K 814 := by
  intro θ S n c s p a5 a6 a7 hG hj hp hc hs hk
  have hn := gs_n hG
  refine q_aload_n rfl rfl rfl ?_
  refine q_aload_nF rfl rfl rfl ?_
  refine q_iload rfl rfl rfl ?_
  refine q_iconst rfl rfl ?_
  refine q_iadd rfl rfl (q_tn (z := nI (p + 1)) (nI_add p 1) ?_)
  refine q_ialdF rfl rfl (sc_i hp hL (by decide)) (q_tn (sc_v hp hL (by decide)) ?_)
  refine q_aload_nF rfl rfl rfl ?_
  refine q_iload rfl rfl rfl ?_
  refine q_iconst rfl rfl ?_
  refine q_iadd rfl rfl (q_tn (z := nI (p + 2)) (nI_add p 2) ?_)
  refine q_ialdF rfl rfl (sc_i hp hL (by decide)) (q_tn (sc_v hp hL (by decide)) ?_)
  obtain ⟨ob0, hob0, -⟩ := gs_obj hG (k := 0) rfl
  have hn0 := gs_n hG
  refine q_cV rfl rfl (Or.inl rfl) rfl rfl rfl rfl (by omega) hob0 trivial rfl (c2 := c) (s2 := s) rfl rfl rfl rfl (pm_weak (q_kc w147 [((xs (p + 1))).toInt, ((xs (p + 2))).toInt] hG ⟨rfl, ck_oku rfl rfl, ck_oku rfl rfl, trivial⟩ (ck_en_c (fullI _).1 (fullI _).2 (ck_en_c (fullI _).1 (fullI _).2 ck_en_n)) (fun d hd => by cases hd)) (fun r S9 n9 h => ri_of rfl h)) ?_
  rintro r T1 _ ⟨rfl, ⟨zT1, rfl⟩, gT1, eT1⟩
  show PQ (j_SL Ls) (j_SV xs) j_EX mm_L_law 830 [.float 5, .ref 0, .ref 46, .ref 81, .int (nI p), a5, a6, a7] [.int zT1] T1 n c s K
  refine q_pop rfl rfl ?_
  refine q_aload_n rfl rfl rfl ?_
  refine q_aload_nF rfl rfl rfl ?_
  refine q_iload rfl rfl rfl ?_
  refine q_iconst rfl rfl ?_
  refine q_iadd rfl rfl (q_tn (z := nI (p + 1)) (nI_add p 1) ?_)
  refine q_ialdF rfl rfl (sc_i hp hL (by decide)) (q_tn (sc_v hp hL (by decide)) ?_)
  refine q_aload_nF rfl rfl rfl ?_
  refine q_iload rfl rfl rfl ?_
  refine q_iconst rfl rfl ?_
  refine q_iadd rfl rfl (q_tn (z := nI (p + 2)) (nI_add p 2) ?_)
  refine q_ialdF rfl rfl (sc_i hp hL (by decide)) (q_tn (sc_v hp hL (by decide)) ?_)
  obtain ⟨ob1, hob1, -⟩ := gs_obj gT1 (k := 46) rfl
  have hn1 := gs_n gT1
  refine q_cV rfl rfl (Or.inl rfl) rfl rfl rfl rfl (by omega) hob1 trivial rfl (c2 := c) (s2 := s) rfl rfl rfl rfl (pm_weak (q_kc w266 [((xs (p + 1))).toInt, ((xs (p + 2))).toInt] gT1 ⟨rfl, ck_oku rfl rfl, ck_oku rfl rfl, trivial⟩ (ck_en_c (fullI _).1 (fullI _).2 (ck_en_c (fullI _).1 (fullI _).2 ck_en_n)) (fun d hd => by cases hd)) (fun r S9 n9 h => ri_of rfl h)) ?_
  rintro r T2 _ ⟨rfl, ⟨zT2, rfl⟩, gT2, eT2⟩
  show PQ (j_SL Ls) (j_SV xs) j_EX mm_L_law 847 [.float 5, .ref 0, .ref 46, .ref 81, .int (nI p), a5, a6, a7] [.int zT2] T2 n c s K
  refine q_pop rfl rfl ?_
  refine q_goto rfl ?_
  exact hk θ T2 n _ _ _ _ _ gT2 ⟨jar_2 hn hj.1 eT1 eT2 rfl rfl, je_2 hG gT1 hj.2 eT1 eT2 rfl rfl⟩ (by omega) (by omega)
set_option maxHeartbeats 4000000 in
theorem k_19 (hL : Ls < 2 ^ 31) : OKJ JEr Ls xs K 851 := by
  intro θ S n c s p a5 a6 a7 hG hj hp hc hs hk
  have hn := gs_n hG
  refine q_aload_n rfl rfl rfl ?_
  refine q_aload_nF rfl rfl rfl ?_
  refine q_iload rfl rfl rfl ?_
  refine q_iconst rfl rfl ?_
  refine q_iadd rfl rfl (q_tn (z := nI (p + 1)) (nI_add p 1) ?_)
  refine q_ialdF rfl rfl (sc_i hp hL (by decide)) (q_tn (sc_v hp hL (by decide)) ?_)
  refine q_aload_nF rfl rfl rfl ?_
  refine q_iload rfl rfl rfl ?_
  refine q_iconst rfl rfl ?_
  refine q_iadd rfl rfl (q_tn (z := nI (p + 2)) (nI_add p 2) ?_)
  refine q_ialdF rfl rfl (sc_i hp hL (by decide)) (q_tn (sc_v hp hL (by decide)) ?_)
  refine q_aload_nF rfl rfl rfl ?_
  refine q_iload rfl rfl rfl ?_
  refine q_iconst rfl rfl ?_
  refine q_iadd rfl rfl (q_tn (z := nI (p + 3)) (nI_add p 3) ?_)
  refine q_ialdF rfl rfl (sc_i hp hL (by decide)) (q_tn (sc_v hp hL (by decide)) ?_)
  have key1 : ∀ v : Int32, (0 : Int) ≤ v.toInt → v.toInt ≤ 1 → PQ (j_SL Ls) (j_SV xs) j_EX mm_L_law 878 [.float 5, .ref 0, .ref 46, .ref 81, .int (nI p), a5, a6, a7] [.int v, .int (xs (p + 2)), .int (xs (p + 1)), .ref 0] S n c s K := by
    intro v v0 v1
    obtain ⟨ob0, hob0, -⟩ := gs_obj hG (k := 0) rfl
    have hn0 := gs_n hG
    refine q_cV rfl rfl (Or.inl rfl) rfl rfl rfl rfl (by omega) hob0 trivial rfl (c2 := c) (s2 := s) rfl rfl rfl rfl (pm_weak (q_kc w151 [((xs (p + 1))).toInt, ((xs (p + 2))).toInt, v.toInt] hG ⟨rfl, ck_oku rfl rfl, ck_oku rfl rfl, ck_oku rfl rfl, trivial⟩ (ck_en_c (fullI _).1 (fullI _).2 (ck_en_c (fullI _).1 (fullI _).2 (ck_en_c v0 v1 ck_en_n))) (fun d hd => by cases hd)) (fun r S9 n9 h => ri_of rfl h)) ?_
    rintro r T1 _ ⟨rfl, ⟨zT1, rfl⟩, gT1, eT1⟩
    show PQ (j_SL Ls) (j_SV xs) j_EX mm_L_law 881 [.float 5, .ref 0, .ref 46, .ref 81, .int (nI p), a5, a6, a7] [.int zT1] T1 n c s K
    refine q_pop rfl rfl ?_
    refine q_aload_n rfl rfl rfl ?_
    refine q_aload_nF rfl rfl rfl ?_
    refine q_iload rfl rfl rfl ?_
    refine q_iconst rfl rfl ?_
    refine q_iadd rfl rfl (q_tn (z := nI (p + 1)) (nI_add p 1) ?_)
    refine q_ialdF rfl rfl (sc_i hp hL (by decide)) (q_tn (sc_v hp hL (by decide)) ?_)
    refine q_aload_nF rfl rfl rfl ?_
    refine q_iload rfl rfl rfl ?_
    refine q_iconst rfl rfl ?_
    refine q_iadd rfl rfl (q_tn (z := nI (p + 2)) (nI_add p 2) ?_)
    refine q_ialdF rfl rfl (sc_i hp hL (by decide)) (q_tn (sc_v hp hL (by decide)) ?_)
    refine q_aload_nF rfl rfl rfl ?_
    refine q_iload rfl rfl rfl ?_
    refine q_iconst rfl rfl ?_
    refine q_iadd rfl rfl (q_tn (z := nI (p + 3)) (nI_add p 3) ?_)
    refine q_ialdF rfl rfl (sc_i hp hL (by decide)) (q_tn (sc_v hp hL (by decide)) ?_)
    have key2 : ∀ v : Int32, (0 : Int) ≤ v.toInt → v.toInt ≤ 1 → PQ (j_SL Ls) (j_SV xs) j_EX mm_L_law 909 [.float 5, .ref 0, .ref 46, .ref 81, .int (nI p), a5, a6, a7] [.int v, .int (xs (p + 2)), .int (xs (p + 1)), .ref 46] T1 n c s K := by
      intro v v0 v1
      obtain ⟨ob1, hob1, -⟩ := gs_obj gT1 (k := 46) rfl
      have hn1 := gs_n gT1
      refine q_cV rfl rfl (Or.inl rfl) rfl rfl rfl rfl (by omega) hob1 trivial rfl (c2 := c) (s2 := s) rfl rfl rfl rfl (pm_weak (q_kc w267 [((xs (p + 1))).toInt, ((xs (p + 2))).toInt, v.toInt] gT1 ⟨rfl, ck_oku rfl rfl, ck_oku rfl rfl, ck_oku rfl rfl, trivial⟩ (ck_en_c (fullI _).1 (fullI _).2 (ck_en_c (fullI _).1 (fullI _).2 (ck_en_c v0 v1 ck_en_n))) (fun d hd => by cases hd)) (fun r S9 n9 h => ri_of rfl h)) ?_
      rintro r T2 _ ⟨rfl, ⟨zT2, rfl⟩, gT2, eT2⟩
      show PQ (j_SL Ls) (j_SV xs) j_EX mm_L_law 912 [.float 5, .ref 0, .ref 46, .ref 81, .int (nI p), a5, a6, a7] [.int zT2] T2 n c s K
      refine q_pop rfl rfl ?_
      refine q_goto rfl ?_
      exact hk θ T2 n _ _ _ _ _ gT2 ⟨jar_2 hn hj.1 eT1 eT2 rfl rfl, je_2 hG gT1 hj.2 eT1 eT2 rfl rfl⟩ (by omega) (by omega)
    exact q_ifeq rfl rfl (fun _ => q_iconst rfl rfl (key2 0 (by decide) (by decide))) (fun _ => q_iconst rfl rfl (q_goto rfl (key2 1 (by decide) (by decide))))
  exact q_ifeq rfl rfl (fun _ => q_iconst rfl rfl (key1 0 (by decide) (by decide))) (fun _ => q_iconst rfl rfl (q_goto rfl (key1 1 (by decide) (by decide))))
set_option maxHeartbeats 4000000 in
theorem k_20 (hL : Ls < 2 ^ 31) : OKJ JEr Ls xs K 916 := by
  intro θ S n c s p a5 a6 a7 hG0 hj hp hc hs hk
  have hn := gs_n hG0
  obtain ⟨f, k2, hG⟩ := jar_gy hG0 hj.1
  refine q_aload_n rfl rfl rfl ?_
  refine q_aload_nF rfl rfl rfl ?_
  refine q_iload rfl rfl rfl ?_
  refine q_iconst rfl rfl ?_
  refine q_iadd rfl rfl (q_tn (z := nI (p + 1)) (nI_add p 1) ?_)
  refine q_ialdF rfl rfl (sc_i hp hL (by decide)) (q_tn (sc_v hp hL (by decide)) ?_)
  obtain ⟨ob0, hob0, -⟩ := gs_obj (gj_ab (gy_ab hG).1).1 (k := 0) rfl
  have hn0 := gs_n (gj_ab (gy_ab hG).1).1
  refine q_cV rfl rfl (Or.inl rfl) rfl rfl rfl rfl (by omega) hob0 trivial rfl (c2 := c) (s2 := s) rfl rfl rfl rfl (pm_weak (q_ky wd154 [((xs (p + 1))).toInt] hG ⟨rfl, ck_oku rfl rfl, trivial⟩ (ck_en_c (fullI _).1 (fullI _).2 ck_en_n) (fun d hd => by cases hd)) (fun r S9 n9 h => ry_of rfl h)) ?_
  rintro r T1 _ ⟨rfl, ⟨zT1, rfl⟩, gT1, eT1⟩
  show PQ (j_SL Ls) (j_SV xs) j_EX mm_L_law 926 [.float 5, .ref 0, .ref 46, .ref 81, .int (nI p), a5, a6, a7] [.int zT1] T1 n c s K
  refine q_pop rfl rfl ?_
  refine q_aload_n rfl rfl rfl ?_
  refine q_aload_nF rfl rfl rfl ?_
  refine q_iload rfl rfl rfl ?_
  refine q_iconst rfl rfl ?_
  refine q_iadd rfl rfl (q_tn (z := nI (p + 1)) (nI_add p 1) ?_)
  refine q_ialdF rfl rfl (sc_i hp hL (by decide)) (q_tn (sc_v hp hL (by decide)) ?_)
  obtain ⟨ob1, hob1, -⟩ := gs_obj (gj_ab (gy_ab gT1).1).1 (k := 46) rfl
  have hn1 := gs_n (gj_ab (gy_ab gT1).1).1
  refine q_cV rfl rfl (Or.inl rfl) rfl rfl rfl rfl (by omega) hob1 trivial rfl (c2 := c) (s2 := s) rfl rfl rfl rfl (pm_weak (q_ky wd270 [((xs (p + 1))).toInt] gT1 ⟨rfl, ck_oku rfl rfl, trivial⟩ (ck_en_c (fullI _).1 (fullI _).2 ck_en_n) (fun d hd => by cases hd)) (fun r S9 n9 h => ry_of rfl h)) ?_
  rintro r T2 _ ⟨rfl, ⟨zT2, rfl⟩, gT2, eT2⟩
  show PQ (j_SL Ls) (j_SV xs) j_EX mm_L_law 937 [.float 5, .ref 0, .ref 46, .ref 81, .int (nI p), a5, a6, a7] [.int zT2] T2 n c s K
  refine q_pop rfl rfl ?_
  refine q_goto rfl ?_
  exact hk θ T2 n _ _ _ _ _ (gj_ab (gy_ab gT2).1).1 ⟨jar_back hn hj.1 k2 gT2 eT1 eT2 rfl rfl, je_2 hG0 (gj_ab (gy_ab gT1).1).1 hj.2 eT1 eT2 rfl rfl⟩ (by omega) (by omega)
set_option maxHeartbeats 4000000 in
theorem k_21 (hL : Ls < 2 ^ 31) : OKJ JEr Ls xs K 941 := by
  intro θ S n c s p a5 a6 a7 hG0 hj hp hc hs hk
  have hn := gs_n hG0
  obtain ⟨f, k2, hG⟩ := jar_gy hG0 hj.1
  refine q_aload_n rfl rfl rfl ?_
  obtain ⟨ob0, hob0, -⟩ := gs_obj (gj_ab (gy_ab hG).1).1 (k := 0) rfl
  have hn0 := gs_n (gj_ab (gy_ab hG).1).1
  refine q_cV rfl rfl (Or.inl rfl) rfl rfl rfl rfl (by omega) hob0 trivial rfl (c2 := c) (s2 := s) rfl rfl rfl rfl (pm_weak (q_ky wd156 [] hG ⟨rfl, trivial⟩ ck_en_n (fun d hd => by cases hd)) (fun r S9 n9 h => ry_of rfl h)) ?_
  rintro r T1 _ ⟨rfl, ⟨zT1, rfl⟩, gT1, eT1⟩
  show PQ (j_SL Ls) (j_SV xs) j_EX mm_L_law 945 [.float 5, .ref 0, .ref 46, .ref 81, .int (nI p), a5, a6, a7] [.int zT1] T1 n c s K
  refine q_pop rfl rfl ?_
  refine q_aload_n rfl rfl rfl ?_
  obtain ⟨ob1, hob1, -⟩ := gs_obj (gj_ab (gy_ab gT1).1).1 (k := 46) rfl
  have hn1 := gs_n (gj_ab (gy_ab gT1).1).1
  refine q_cV rfl rfl (Or.inl rfl) rfl rfl rfl rfl (by omega) hob1 trivial rfl (c2 := c) (s2 := s) rfl rfl rfl rfl (pm_weak (q_ky wd272 [] gT1 ⟨rfl, trivial⟩ ck_en_n (fun d hd => by cases hd)) (fun r S9 n9 h => ry_of rfl h)) ?_
  rintro r T2 _ ⟨rfl, ⟨zT2, rfl⟩, gT2, eT2⟩
  show PQ (j_SL Ls) (j_SV xs) j_EX mm_L_law 950 [.float 5, .ref 0, .ref 46, .ref 81, .int (nI p), a5, a6, a7] [.int zT2] T2 n c s K
  refine q_pop rfl rfl ?_
  refine q_goto rfl ?_
  exact hk θ T2 n _ _ _ _ _ (gj_ab (gy_ab gT2).1).1 ⟨jar_back hn hj.1 k2 gT2 eT1 eT2 rfl rfl, je_2 hG0 (gj_ab (gy_ab gT1).1).1 hj.2 eT1 eT2 rfl rfl⟩ (by omega) (by omega)
set_option maxHeartbeats 4000000 in
theorem k_22 (hL : Ls < 2 ^ 31) : OKJ JEr Ls xs K 954 := by
  intro θ S n c s p a5 a6 a7 hG0 hj hp hc hs hk
  have hn := gs_n hG0
  obtain ⟨f, k2, hG⟩ := jar_gy hG0 hj.1
  refine q_aload_n rfl rfl rfl ?_
  obtain ⟨ob0, hob0, -⟩ := gs_obj (gj_ab (gy_ab hG).1).1 (k := 0) rfl
  have hn0 := gs_n (gj_ab (gy_ab hG).1).1
  refine q_cV rfl rfl (Or.inl rfl) rfl rfl rfl rfl (by omega) hob0 trivial rfl (c2 := c) (s2 := s) rfl rfl rfl rfl (pm_weak (q_ky wd160 [] hG ⟨rfl, trivial⟩ ck_en_n (fun d hd => by cases hd)) (fun r S9 n9 h => ry_of rfl h)) ?_
  rintro r T1 _ ⟨rfl, ⟨zT1, rfl⟩, gT1, eT1⟩
  show PQ (j_SL Ls) (j_SV xs) j_EX mm_L_law 958 [.float 5, .ref 0, .ref 46, .ref 81, .int (nI p), a5, a6, a7] [.int zT1] T1 n c s K
  refine q_pop rfl rfl ?_
  refine q_aload_n rfl rfl rfl ?_
  obtain ⟨ob1, hob1, -⟩ := gs_obj (gj_ab (gy_ab gT1).1).1 (k := 46) rfl
  have hn1 := gs_n (gj_ab (gy_ab gT1).1).1
  refine q_cV rfl rfl (Or.inl rfl) rfl rfl rfl rfl (by omega) hob1 trivial rfl (c2 := c) (s2 := s) rfl rfl rfl rfl (pm_weak (q_ky wd273 [] gT1 ⟨rfl, trivial⟩ ck_en_n (fun d hd => by cases hd)) (fun r S9 n9 h => ry_of rfl h)) ?_
  rintro r T2 _ ⟨rfl, ⟨zT2, rfl⟩, gT2, eT2⟩
  show PQ (j_SL Ls) (j_SV xs) j_EX mm_L_law 963 [.float 5, .ref 0, .ref 46, .ref 81, .int (nI p), a5, a6, a7] [.int zT2] T2 n c s K
  refine q_pop rfl rfl ?_
  refine q_goto rfl ?_
  exact hk θ T2 n _ _ _ _ _ (gj_ab (gy_ab gT2).1).1 ⟨jar_back hn hj.1 k2 gT2 eT1 eT2 rfl rfl, je_2 hG0 (gj_ab (gy_ab gT1).1).1 hj.2 eT1 eT2 rfl rfl⟩ (by omega) (by omega)
set_option maxHeartbeats 4000000 in
theorem k_25 (hL : Ls < 2 ^ 31) : OKJ JEr Ls xs K 1077 := by
  intro θ S n c s p a5 a6 a7 hG hj hp hc hs hk
  have hn := gs_n hG
  obtain ⟨fs, k0, -, f7, -⟩ := gs_0 hG
  obtain ⟨f, HF, SF, g, hJ⟩ := hj.2
  have h43 := hJ.1
  obtain ⟨o, h81⟩ := gs_lng hG (k := 81) rfl
  obtain ⟨kk, v, he⟩ := el_ex hG h43 (xs (p + 1)) (xs (p + 2))
  have t81 : ∀ k, k ∈ jal2 → k < 81 := by decide
  have tail : ∀ (T : Nat → pm_E) (m : Nat), GS θ T m → JEr θ T → T 75 = ar8 HF → T 78 = ar8 SF → T 79 = it79 g → ∀ o9 : Nat → Int64, T 81 = .inl (1, 1, .inr (.inl o9)) → (kk = 0 → o9 0 = v) → PQ (j_SL Ls) (j_SV xs) j_EX mm_L_law 1094 [.float 5, .ref 0, .ref 46, .ref 81, .int (nI p), a5, a6, a7] [.int kk] T m (c + 1) (s + 6) K := by
    intro T m hT jT t75 t78 t79 o9 t81 ho
    have hm := gs_n hT
    obtain ⟨ob, hob, -⟩ := gs_obj hT (k := 46) rfl
    refine q_ist5 rfl rfl rfl rfl ?_
    refine q_aload_n rfl rfl rfl ?_
    refine q_aload_nF rfl rfl rfl ?_
    refine q_iload rfl rfl rfl ?_
    refine q_iconst rfl rfl ?_
    refine q_iadd rfl rfl (q_tn (z := nI (p + 1)) (nI_add p 1) ?_)
    refine q_ialdF rfl rfl (sc_i hp hL (by decide)) (q_tn (sc_v hp hL (by decide)) ?_)
    refine q_aload_nF rfl rfl rfl ?_
    refine q_iload rfl rfl rfl ?_
    refine q_iconst rfl rfl ?_
    refine q_iadd rfl rfl (q_tn (z := nI (p + 2)) (nI_add p 2) ?_)
    refine q_ialdF rfl rfl (sc_i hp hL (by decide)) (q_tn (sc_v hp hL (by decide)) ?_)
    refine q_cV rfl rfl (Or.inl rfl) rfl rfl rfl rfl (by omega) hob trivial rfl (c2 := c + 1) (s2 := s + 6) rfl rfl rfl rfl (pm_weak (pm_and (pm_weak (q_kc w281 [(xs (p + 1)).toInt, (xs (p + 2)).toInt] hT ⟨rfl, ck_oku rfl rfl, ck_oku rfl rfl, trivial⟩ (ck_en_c (fullI _).1 (fullI _).2 (ck_en_c (fullI _).1 (fullI _).2 ck_en_n)) (fun d hd => by cases hd)) (fun r S9 n9 h => rl_of rfl h)) (l_elX hT t75 t78 t79)) (fun r S9 n9 h => el_mid h)) ?_
    rintro r T1 m9 ⟨em, g1, e1, fs9, kk9, w, rfl, j46, f0, hI⟩
    subst m9
    obtain ⟨ek, ev⟩ := el_eq hG hJ he hI
    show PQ (j_SL Ls) (j_SV xs) j_EX mm_L_law 1112 [.float 5, .ref 0, .ref 46, .ref 81, .int (nI p), .int kk, a6, a7] [.long w] T1 m (c + 1) (s + 6) K
    refine q_lst6 rfl rfl rfl rfl ?_
    have done : PQ (j_SL Ls) (j_SV xs) j_EX mm_L_law 1141 [.float 5, .ref 0, .ref 46, .ref 81, .int (nI p), .int kk, .long w, pm_un] [] T1 m (c + 1) (s + 6) K := by
      refine q_goto rfl ?_
      exact hk θ T1 m _ _ _ _ _ g1 ⟨jar_2 hm jT.1 (l := []) fr1_rf e1 rfl rfl, je_2 hT hT jT.2 (l := []) fr1_rf e1 rfl rfl⟩ (by omega) (by omega)
    refine q_aload_n rfl rfl rfl ?_
    refine q_cV rfl rfl (Or.inl rfl) rfl rfl rfl rfl (by omega) j46 trivial rfl (c2 := c + 1) (s2 := s + 6) rfl rfl rfl rfl (lr_thr hm j46 f0) ?_
    rintro r _ _ ⟨rfl, rfl, rfl⟩
    show PQ (j_SL Ls) (j_SV xs) j_EX mm_L_law 1118 [.float 5, .ref 0, .ref 46, .ref 81, .int (nI p), .int kk, .long w, pm_un] [.int kk9] T1 m (c + 1) (s + 6) K
    refine q_iload rfl rfl rfl ?_
    refine q_iceq rfl rfl (fun _ => ?_) (fun c9 => absurd ek c9)
    refine q_iload rfl rfl rfl ?_
    refine q_fne rfl rfl (fun _ => done) (fun z0 => ?_)
    have zk : kk = 0 := Classical.byContradiction z0
    have t81' : T1 81 = .inl (1, 1, .inr (.inl o9)) := (e1 81 (by omega) rfl).trans t81
    refine q_aload_n rfl rfl rfl ?_
    refine q_iconst rfl rfl ?_
    refine q_lald rfl rfl (by omega) t81' rfl ?_
    refine q_lload rfl rfl rfl ?_
    refine q_lcmp rfl rfl ?_
    refine q_ifeq rfl rfl (fun _ => done) (fun c9 => absurd ((lg_cmp_eq _ _).mpr ((ho zk).trans (ev zk))) c9)
  refine q_aload_n rfl rfl rfl ?_
  refine q_aload_nF rfl rfl rfl ?_
  refine q_iload rfl rfl rfl ?_
  refine q_iconst rfl rfl ?_
  refine q_iadd rfl rfl (q_tn (z := nI (p + 1)) (nI_add p 1) ?_)
  refine q_ialdF rfl rfl (sc_i hp hL (by decide)) (q_tn (sc_v hp hL (by decide)) ?_)
  refine q_aload_nF rfl rfl rfl ?_
  refine q_iload rfl rfl rfl ?_
  refine q_iconst rfl rfl ?_
  refine q_iadd rfl rfl (q_tn (z := nI (p + 2)) (nI_add p 2) ?_)
  refine q_ialdF rfl rfl (sc_i hp hL (by decide)) (q_tn (sc_v hp hL (by decide)) ?_)
  refine q_aload_n rfl rfl rfl ?_
  refine q_elem (by omega) k0 f7 h43 h81 he (show c + 1 ≤ 601024 by omega) (show s + 6 ≤ 7293033 by omega) (fun h => ?_) (fun h g => ?_)
  · subst h
    refine tail _ _ (gs_st (k := 81) (c := .inl (1, 1, .inr (.inl (vp_updL o 0 v)))) hG rfl rfl ⟨_, rfl⟩ (pk_arr h81)) ?_ ((u_ne (by decide)).trans hJ.2.1) ((u_ne (by decide)).trans hJ.2.2.1) ((u_ne (by decide)).trans hJ.2.2.2.1) _ u_eq (fun _ => tL_at)
    exact ⟨jar_fr hj.1 (fun k hk => u_ne (by have := t81 k hk; omega)), je_fr hG hj.2 (fun k hk => u_ne (by omega))⟩
  · refine tail _ _ (gs_ext hG (by omega) (fun j hj => u_ne (by omega))) ?_ ((u_ne (by omega)).trans hJ.2.1) ((u_ne (by omega)).trans hJ.2.2.1) ((u_ne (by omega)).trans hJ.2.2.2.1) _ ((u_ne (by omega)).trans h81) (fun h9 => absurd h9 h)
    exact ⟨jar_fr hj.1 (fun k hk => u_ne (by have := t81 k hk; omega)), je_fr hG hj.2 (fun k hk => u_ne (by omega))⟩
theorem p_claim (L : Nat) (xs : Nat → Int32) (hL : L ≤ 3072) : pm_W j_ft j_df (j_SL L) (j_SV xs) j_MT j_EX mm_L_law (0, pm_en 8 [.float 5], [], [], 0, 0) (fun r _ => r = some (.int 1)) := by
  have key : PQ (j_SL L) (j_SV xs) j_EX mm_L_law 0 [.float 5, pm_un, pm_un, pm_un, pm_un, pm_un, pm_un, pm_un] [] (fun _ => .inr (99, [])) 0 0 0 (fun r _ _ => r = some (.int 1)) :=
    t_run (J := JEr) (k_0 (by omega)) (k_1 (by omega)) (k_2 (by omega)) (k_3 (by omega)) (k_4 (by omega)) (k_5 (by omega)) (k_6 (by omega)) (k_7 (by omega)) (k_8 (by omega)) (k_9 (by omega)) (k_10 (by omega)) (k_11 (by omega)) (k_12 (by omega)) (k_13 (by omega)) (k_14 (by omega)) (k_15 (by omega)) (k_16 (by omega)) (k_17 (by omega)) (k_18 (by omega)) (k_19 (by omega)) (k_20 (by omega)) (k_21 (by omega)) (k_22 (by omega)) (k_23 (by omega)) (k_24 (by omega)) (k_25 (by omega)) (k_26 (by omega)) (k_27 (by omega)) (k_28 (by omega)) (fun _ _ => rfl) hL (fun S hW => jer_init hW)
  unfold PQ at key
  exact pm_W_mono _ _ _ _ _ _ key (fun r h' => by rintro ⟨S', n', -, e⟩; exact e)
end WZ
