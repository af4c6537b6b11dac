/-! p5: the cases by hand, the claim on the pure machine -/
section WZ
variable {Ls : Nat} {xs : Nat → Int32} {K : q_K} {S S' : Nat → pm_E} {n : Nat} {θ : Th}
theorem j2_fr {l : List Nat} (h : J2 θ S) (e : fr1 l S S' n) (hn : 82 ≤ n) (hl : [1, 3].all (fun k => !(l.contains k)) = true) : J2 θ S' := by
  obtain ⟨⟨fs, a, b⟩, ln, c, d⟩ := h
  have f : ∀ k, k ∈ [1, 3] → l.contains k = false := fun k hk => by simpa using List.all_eq_true.mp hl k hk
  exact ⟨⟨fs, (e 1 (by omega) (f 1 (by simp))).trans a, b⟩, ln, (e 3 (by omega) (f 3 (by simp))).trans c, d⟩
theorem jk_fr {l : List Nat} (h : JK θ S) (e : fr1 l S S' n) (hn : 82 ≤ n) (hl : [4, 5, 6].all (fun k => !(l.contains k)) = true) : JK θ S' := by
  have f : ∀ k, k ∈ [4, 5, 6] → l.contains k = false := fun k hk => by simpa using List.all_eq_true.mp hl k hk
  exact jk_same h (e 4 (by omega) (f 4 (by simp))) (e 5 (by omega) (f 5 (by simp))) (e 6 (by omega) (f 6 (by simp)))
theorem jv_same (h : JV S) (e1 : S' 2 = S 2) (e2 : S' 51 = S 51) : JV S' := by
  obtain ⟨f, g, a, b, c⟩ := h
  exact ⟨f, g, e1.trans a, e2.trans b, c⟩
theorem jv_fr {l : List Nat} (h : JV S) (e : fr1 l S S' n) (hn : 82 ≤ n) (hl : [2, 51].all (fun k => !(l.contains k)) = true) : JV S' := by
  have f : ∀ k, k ∈ [2, 51] → l.contains k = false := fun k hk => by simpa using List.all_eq_true.mp hl k hk
  exact jv_same h (e 2 (by omega) (f 2 (by simp))) (e 51 (by omega) (f 51 (by simp)))
theorem jv_pz {T1 T2 : Nat → pm_E} {h : Int32} (hv : JV S) (e1 : fr1 [0, 1, 2, 3, 32, 42, 44] S T1 n) (e2 : fr1 [46, 47, 51, 52, 54, 62, 74] T1 T2 n) (hn : 82 ≤ n) (u1 : ¬ inP h 1 3 → S = T1) (u2 : inP h 1 3 → ∃ g : Nat → Int32, T1 2 = .inl (0, 4, .inl g) ∧ ∀ p, p < 4 → g p = 0) (v1 : ¬ inP h 1 3 → T2 = T1) (v2 : inP h 1 3 → ∃ g : Nat → Int32, T2 51 = .inl (0, 4, .inl g) ∧ ∀ p, p < 4 → g p = 0) : JV T2 := by
  by_cases c : inP h 1 3
  · obtain ⟨g, a1, a2⟩ := u2 c
    obtain ⟨g', b1, b2⟩ := v2 c
    exact ⟨g, g', (e2 2 (by omega) rfl).trans a1, b1, fun p hp => (a2 p hp).trans (b2 p hp).symm⟩
  · rw [v1 c, ← u1 c]
    exact hv
theorem jv_init (h : FW S) : JV S := ⟨_, _, FW_2 S h, FW_51 S h, fun _ _ => rfl⟩
set_option maxHeartbeats 4000000 in
theorem k_0 (hL : Ls < 2 ^ 31) : OKJ (fun θ S => J2 θ S ∧ JV S) Ls xs K 172 := by
  intro θ S n c s p a5 a6 a7 hG hj hp hc hs hk
  have hn := gs_n hG
  obtain ⟨fs, k0, -, -, -⟩ := gs_0 hG
  refine q_aload_n rfl rfl rfl ?_
  refine q_aload_nF rfl rfl rfl ?_
  refine q_iload rfl rfl rfl ?_
  refine q_iconst rfl rfl ?_
  refine q_iadd rfl rfl (q_tn (z := nI (p + 1)) (nI_add p 1) ?_)
  refine q_ialdF rfl rfl (sc_i hp hL (by decide)) (q_tn (sc_v hp hL (by decide)) ?_)
  refine q_cV rfl rfl (Or.inl rfl) rfl rfl rfl rfl (by omega) k0 trivial rfl (c2 := c) (s2 := s) rfl rfl rfl rfl (c_pz hG hj.1) ?_
  rintro r T1 _ ⟨rfl, hG1, e1, u1, u2, z, rfl, hz⟩
  show PQ (j_SL Ls) (j_SV xs) j_EX mm_L_law 182 [.float 5, .ref 0, .ref 46, .ref 81, .int (nI p), a5, a6, a7] [.int z] T1 n c s K
  have hn1 := gs_n hG1
  obtain ⟨ob, hob, -⟩ := gs_obj hG1 (k := 46) rfl
  refine q_pop rfl rfl ?_
  refine q_aload_n rfl rfl rfl ?_
  refine q_aload_nF rfl rfl rfl ?_
  refine q_iload rfl rfl rfl ?_
  refine q_iconst rfl rfl ?_
  refine q_iadd rfl rfl (q_tn (z := nI (p + 1)) (nI_add p 1) ?_)
  refine q_ialdF rfl rfl (sc_i hp hL (by decide)) (q_tn (sc_v hp hL (by decide)) ?_)
  refine q_cV rfl rfl (Or.inl rfl) rfl rfl rfl rfl (by omega) hob trivial rfl (c2 := c) (s2 := s) rfl rfl rfl rfl (l_rpuz hG1) ?_
  rintro r T2 m9 ⟨en, e2, v1, v2, z', θ', rfl, hG2, hr⟩
  subst m9
  show PQ (j_SL Ls) (j_SV xs) j_EX mm_L_law 193 [.float 5, .ref 0, .ref 46, .ref 81, .int (nI p), a5, a6, a7] [.int z'] T2 n c s K
  refine q_pop rfl rfl ?_
  refine q_goto rfl ?_
  exact hk θ' T2 n c s a5 a6 a7 hG2 (⟨j2_fr (hz z' θ' hr).2.1 e2 hn rfl, jv_pz hj.2 e1 e2 hn u1 u2 v1 v2⟩) (by omega) (by omega)
set_option maxHeartbeats 4000000 in
theorem k_1 (hL : Ls < 2 ^ 31) : OKJ (fun θ S => J2 θ S ∧ JV S) Ls xs K 197 := by
  intro θ S n c s p a5 a6 a7 hG hj hp hc hs hk
  have hn := gs_n hG
  obtain ⟨fs, k0, -, -, -⟩ := gs_0 hG
  refine q_aload_n rfl rfl rfl ?_
  refine q_aload_nF rfl rfl rfl ?_
  refine q_iload rfl rfl rfl ?_
  refine q_iconst rfl rfl ?_
  refine q_iadd rfl rfl (q_tn (z := nI (p + 1)) (nI_add p 1) ?_)
  refine q_ialdF rfl rfl (sc_i hp hL (by decide)) (q_tn (sc_v hp hL (by decide)) ?_)
  refine q_aload_nF rfl rfl rfl ?_
  refine q_iload rfl rfl rfl ?_
  refine q_iconst rfl rfl ?_
  refine q_iadd rfl rfl (q_tn (z := nI (p + 2)) (nI_add p 2) ?_)
  refine q_ialdF rfl rfl (sc_i hp hL (by decide)) (q_tn (sc_v hp hL (by decide)) ?_)
  refine q_aload_nF rfl rfl rfl ?_
  refine q_iload rfl rfl rfl ?_
  refine q_iconst rfl rfl ?_
  refine q_iadd rfl rfl (q_tn (z := nI (p + 3)) (nI_add p 3) ?_)
  refine q_ialdF rfl rfl (sc_i hp hL (by decide)) (q_tn (sc_v hp hL (by decide)) ?_)
  refine q_aload_nF rfl rfl rfl ?_
  refine q_iload rfl rfl rfl ?_
  refine q_iconst rfl rfl ?_
  refine q_iadd rfl rfl (q_tn (z := nI (p + 4)) (nI_add p 4) ?_)
  refine q_ialdF rfl rfl (sc_i hp hL (by decide)) (q_tn (sc_v hp hL (by decide)) ?_)
  refine q_cV rfl rfl (Or.inl rfl) rfl rfl rfl rfl (by omega) k0 trivial rfl (c2 := c) (s2 := s) rfl rfl rfl rfl (c_cd hG hj.1) ?_
  rintro r T1 _ ⟨rfl, hG1, e1, z, rfl, hz⟩
  show PQ (j_SL Ls) (j_SV xs) j_EX mm_L_law 225 [.float 5, .ref 0, .ref 46, .ref 81, .int (nI p), a5, a6, a7] [.int z] T1 n c s K
  have hn1 := gs_n hG1
  obtain ⟨ob, hob, -⟩ := gs_obj hG1 (k := 46) rfl
  refine q_pop rfl rfl ?_
  refine q_aload_n rfl rfl rfl ?_
  refine q_aload_nF rfl rfl rfl ?_
  refine q_iload rfl rfl rfl ?_
  refine q_iconst rfl rfl ?_
  refine q_iadd rfl rfl (q_tn (z := nI (p + 1)) (nI_add p 1) ?_)
  refine q_ialdF rfl rfl (sc_i hp hL (by decide)) (q_tn (sc_v hp hL (by decide)) ?_)
  refine q_aload_nF rfl rfl rfl ?_
  refine q_iload rfl rfl rfl ?_
  refine q_iconst rfl rfl ?_
  refine q_iadd rfl rfl (q_tn (z := nI (p + 2)) (nI_add p 2) ?_)
  refine q_ialdF rfl rfl (sc_i hp hL (by decide)) (q_tn (sc_v hp hL (by decide)) ?_)
  refine q_aload_nF rfl rfl rfl ?_
  refine q_iload rfl rfl rfl ?_
  refine q_iconst rfl rfl ?_
  refine q_iadd rfl rfl (q_tn (z := nI (p + 3)) (nI_add p 3) ?_)
  refine q_ialdF rfl rfl (sc_i hp hL (by decide)) (q_tn (sc_v hp hL (by decide)) ?_)
  refine q_aload_nF rfl rfl rfl ?_
  refine q_iload rfl rfl rfl ?_
  refine q_iconst rfl rfl ?_
  refine q_iadd rfl rfl (q_tn (z := nI (p + 4)) (nI_add p 4) ?_)
  refine q_ialdF rfl rfl (sc_i hp hL (by decide)) (q_tn (sc_v hp hL (by decide)) ?_)
  refine q_cV rfl rfl (Or.inl rfl) rfl rfl rfl rfl (by omega) hob trivial rfl (c2 := c) (s2 := s) rfl rfl rfl rfl (l_rcode hG1) ?_
  rintro r T2 m9 ⟨en, e2, z', θ', rfl, hG2, hr⟩
  subst m9
  show PQ (j_SL Ls) (j_SV xs) j_EX mm_L_law 254 [.float 5, .ref 0, .ref 46, .ref 81, .int (nI p), a5, a6, a7] [.int z'] T2 n c s K
  refine q_pop rfl rfl ?_
  refine q_goto rfl ?_
  exact hk θ' T2 n c s a5 a6 a7 hG2 (⟨j2_fr (hz z' θ' hr).2.1 e2 hn rfl, jv_fr (jv_fr hj.2 e1 hn rfl) e2 hn rfl⟩) (by omega) (by omega)
set_option maxHeartbeats 4000000 in
theorem k_2 (hL : Ls < 2 ^ 31) : OKJ (fun θ S => J2 θ S ∧ JV S) Ls xs K 258 := by
  intro θ S n c s p a5 a6 a7 hG hj hp hc hs hk
  have hn := gs_n hG
  obtain ⟨fs, k0, -, -, -⟩ := gs_0 hG
  refine q_aload_n rfl rfl rfl ?_
  refine q_aload_nF rfl rfl rfl ?_
  refine q_iload rfl rfl rfl ?_
  refine q_iconst rfl rfl ?_
  refine q_iadd rfl rfl (q_tn (z := nI (p + 1)) (nI_add p 1) ?_)
  refine q_ialdF rfl rfl (sc_i hp hL (by decide)) (q_tn (sc_v hp hL (by decide)) ?_)
  refine q_cV rfl rfl (Or.inl rfl) rfl rfl rfl rfl (by omega) k0 trivial rfl (c2 := c) (s2 := s) rfl rfl rfl rfl (c_un hG hj.1) ?_
  rintro r T1 _ ⟨rfl, hG1, e1, z, rfl, hz⟩
  show PQ (j_SL Ls) (j_SV xs) j_EX mm_L_law 268 [.float 5, .ref 0, .ref 46, .ref 81, .int (nI p), a5, a6, a7] [.int z] T1 n c s K
  have hn1 := gs_n hG1
  obtain ⟨ob, hob, -⟩ := gs_obj hG1 (k := 46) rfl
  refine q_pop rfl rfl ?_
  refine q_aload_n rfl rfl rfl ?_
  refine q_aload_nF rfl rfl rfl ?_
  refine q_iload rfl rfl rfl ?_
  refine q_iconst rfl rfl ?_
  refine q_iadd rfl rfl (q_tn (z := nI (p + 1)) (nI_add p 1) ?_)
  refine q_ialdF rfl rfl (sc_i hp hL (by decide)) (q_tn (sc_v hp hL (by decide)) ?_)
  refine q_cV rfl rfl (Or.inl rfl) rfl rfl rfl rfl (by omega) hob trivial rfl (c2 := c) (s2 := s) rfl rfl rfl rfl (l_runc hG1) ?_
  rintro r T2 m9 ⟨en, e2, z', θ', rfl, hG2, hr⟩
  subst m9
  show PQ (j_SL Ls) (j_SV xs) j_EX mm_L_law 279 [.float 5, .ref 0, .ref 46, .ref 81, .int (nI p), a5, a6, a7] [.int z'] T2 n c s K
  refine q_pop rfl rfl ?_
  refine q_goto rfl ?_
  exact hk θ' T2 n c s a5 a6 a7 hG2 (⟨j2_fr (hz z' θ' hr).2.1 e2 hn rfl, jv_fr (jv_fr hj.2 e1 hn rfl) e2 hn rfl⟩) (by omega) (by omega)
set_option maxHeartbeats 4000000 in
theorem k_3 (hL : Ls < 2 ^ 31) : OKJ (fun θ S => J2 θ S ∧ JV S) Ls xs K 283 := by
  intro θ S n c s p a5 a6 a7 hG hj hp hc hs hk
  have hn := gs_n hG
  obtain ⟨fs, k0, -, -, -⟩ := gs_0 hG
  refine q_aload_n rfl rfl rfl ?_
  refine q_aload_nF rfl rfl rfl ?_
  refine q_iload rfl rfl rfl ?_
  refine q_iconst rfl rfl ?_
  refine q_iadd rfl rfl (q_tn (z := nI (p + 1)) (nI_add p 1) ?_)
  refine q_ialdF rfl rfl (sc_i hp hL (by decide)) (q_tn (sc_v hp hL (by decide)) ?_)
  refine q_aload_nF rfl rfl rfl ?_
  refine q_iload rfl rfl rfl ?_
  refine q_iconst rfl rfl ?_
  refine q_iadd rfl rfl (q_tn (z := nI (p + 2)) (nI_add p 2) ?_)
  refine q_ialdF rfl rfl (sc_i hp hL (by decide)) (q_tn (sc_v hp hL (by decide)) ?_)
  refine q_cV rfl rfl (Or.inl rfl) rfl rfl rfl rfl (by omega) k0 trivial rfl (c2 := c) (s2 := s) rfl rfl rfl rfl (c_va hG) ?_
  rintro r T1 _ ⟨rfl, hG1, e1, z, f, f', rfl, q1, q2, hv⟩
  show PQ (j_SL Ls) (j_SV xs) j_EX mm_L_law 299 [.float 5, .ref 0, .ref 46, .ref 81, .int (nI p), a5, a6, a7] [.int z] T1 n c s K
  have hn1 := gs_n hG1
  obtain ⟨ob, hob, -⟩ := gs_obj hG1 (k := 46) rfl
  refine q_aload_n rfl rfl rfl ?_
  refine q_aload_nF rfl rfl rfl ?_
  refine q_iload rfl rfl rfl ?_
  refine q_iconst rfl rfl ?_
  refine q_iadd rfl rfl (q_tn (z := nI (p + 1)) (nI_add p 1) ?_)
  refine q_ialdF rfl rfl (sc_i hp hL (by decide)) (q_tn (sc_v hp hL (by decide)) ?_)
  refine q_aload_nF rfl rfl rfl ?_
  refine q_iload rfl rfl rfl ?_
  refine q_iconst rfl rfl ?_
  refine q_iadd rfl rfl (q_tn (z := nI (p + 2)) (nI_add p 2) ?_)
  refine q_ialdF rfl rfl (sc_i hp hL (by decide)) (q_tn (sc_v hp hL (by decide)) ?_)
  refine q_cV rfl rfl (Or.inl rfl) rfl rfl rfl rfl (by omega) hob trivial rfl (c2 := c) (s2 := s) rfl rfl rfl rfl (l_rva hG1) ?_
  rintro r T2 m9 ⟨en, hG2, e2, z', g, g', rfl, q3, q4, hv'⟩
  subst m9
  show PQ (j_SL Ls) (j_SV xs) j_EX mm_L_law 315 [.float 5, .ref 0, .ref 46, .ref 81, .int (nI p), a5, a6, a7] [.int z', .int z] T2 n c s K
  have key : z = z' ∧ ∀ p, p < 4 → f' p = g' p := by
    obtain ⟨-, f0, g0, a, b, h⟩ := hj
    have b' := (e1 51 (by omega) rfl).trans b
    rw [q1] at a
    rw [q3] at b'
    cases a
    cases b'
    exact va_eq h hv hv'
  refine q_iceq rfl rfl (fun _ => ?_) (fun c9 => absurd (key.1) c9)
  exact hk θ T2 n c s a5 a6 a7 hG2 (⟨j2_fr (j2_fr hj.1 e1 hn rfl) e2 hn rfl, f', g', (e2 2 (by omega) rfl).trans q2, q4, key.2⟩) (by omega) (by omega)
theorem j2_sm (h : J2 θ S) (m : smf S S') : J2 θ S' := j2_smf θ S S' h m
theorem p_claim (L : Nat) (xs : Nat → Int32) (hL : L ≤ 3072) : pm_W j_ft j_df (j_SL L) (j_SV xs) j_MT j_EX mm_L_law (0, pm_en 8 [.float 5], [], [], 0, 0) (fun r _ => r = some (.int 1)) := by
  have key : PQ (j_SL L) (j_SV xs) j_EX mm_L_law 0 [.float 5, pm_un, pm_un, pm_un, pm_un, pm_un, pm_un, pm_un] [] (fun _ => .inr (99, [])) 0 0 0 (fun r _ _ => r = some (.int 1)) :=
    t_run (J := fun θ S => J2 θ S ∧ JV S) (fun θ S S' h m => ⟨j2_sm h.1 m, jv_same h.2 (m 2 (by simp)) (m 51 (by simp))⟩) (k_0 (by omega)) (k_1 (by omega)) (k_2 (by omega)) (k_3 (by omega)) (fun _ _ => rfl) hL (fun S hW => ⟨j2_init hW, jv_init hW⟩)
  unfold PQ at key
  exact pm_W_mono _ _ _ _ _ _ key (fun r h' => by rintro ⟨S', n', -, e⟩; exact e)
end WZ
