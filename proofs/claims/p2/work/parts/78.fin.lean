/-! case 1 of the law; the claim on the pure machine -/
section WZ
variable {Ls : Nat} {xs : Nat → Int32} {K : q_K}
set_option maxHeartbeats 4000000 in
theorem k_1 (hL : Ls < 2 ^ 31) : OKJ J2 Ls xs K 197 := by
  intro θ S n c s p a5 a6 a7 hG hj hp hc hs hk
  have hn := gs_n hG
  obtain ⟨fs, k0, -, -, -⟩ := gs_0 hG
  refine q_aload_n rfl rfl rfl ?_
  refine q_aload_nF rfl rfl rfl ?_
  refine q_iload rfl rfl rfl ?_
  refine q_iconst rfl rfl ?_
  refine q_iadd rfl rfl (q_tn (z := nI (p + 1)) (nI_add p 1) ?_)
  refine q_ialdF rfl rfl (sc_i hp hL (by decide)) (q_tn (sc_v hp hL (by decide)) ?_)
  refine q_aload_nF rfl rfl rfl ?_
  refine q_iload rfl rfl rfl ?_
  refine q_iconst rfl rfl ?_
  refine q_iadd rfl rfl (q_tn (z := nI (p + 2)) (nI_add p 2) ?_)
  refine q_ialdF rfl rfl (sc_i hp hL (by decide)) (q_tn (sc_v hp hL (by decide)) ?_)
  refine q_aload_nF rfl rfl rfl ?_
  refine q_iload rfl rfl rfl ?_
  refine q_iconst rfl rfl ?_
  refine q_iadd rfl rfl (q_tn (z := nI (p + 3)) (nI_add p 3) ?_)
  refine q_ialdF rfl rfl (sc_i hp hL (by decide)) (q_tn (sc_v hp hL (by decide)) ?_)
  refine q_aload_nF rfl rfl rfl ?_
  refine q_iload rfl rfl rfl ?_
  refine q_iconst rfl rfl ?_
  refine q_iadd rfl rfl (q_tn (z := nI (p + 4)) (nI_add p 4) ?_)
  refine q_ialdF rfl rfl (sc_i hp hL (by decide)) (q_tn (sc_v hp hL (by decide)) ?_)
  refine q_cV rfl rfl (Or.inl rfl) rfl rfl rfl rfl (by omega) k0 trivial rfl (c2 := c) (s2 := s) rfl rfl rfl rfl (c_cd hG hj) ?_
  rintro r T1 _ ⟨rfl, ⟨z, rfl⟩, hG1, hz⟩
  show PQ (j_SL Ls) (j_SV xs) j_EX mm_L_law 225 [.float 5, .ref 0, .ref 46, .ref 81, .int (nI p), a5, a6, a7] [.int z] T1 n c s K
  obtain ⟨ob, hob, -⟩ := gs_obj hG1 (k := 46) rfl
  refine q_pop rfl rfl ?_
  refine q_aload_n rfl rfl rfl ?_
  refine q_aload_nF rfl rfl rfl ?_
  refine q_iload rfl rfl rfl ?_
  refine q_iconst rfl rfl ?_
  refine q_iadd rfl rfl (q_tn (z := nI (p + 1)) (nI_add p 1) ?_)
  refine q_ialdF rfl rfl (sc_i hp hL (by decide)) (q_tn (sc_v hp hL (by decide)) ?_)
  refine q_aload_nF rfl rfl rfl ?_
  refine q_iload rfl rfl rfl ?_
  refine q_iconst rfl rfl ?_
  refine q_iadd rfl rfl (q_tn (z := nI (p + 2)) (nI_add p 2) ?_)
  refine q_ialdF rfl rfl (sc_i hp hL (by decide)) (q_tn (sc_v hp hL (by decide)) ?_)
  refine q_aload_nF rfl rfl rfl ?_
  refine q_iload rfl rfl rfl ?_
  refine q_iconst rfl rfl ?_
  refine q_iadd rfl rfl (q_tn (z := nI (p + 3)) (nI_add p 3) ?_)
  refine q_ialdF rfl rfl (sc_i hp hL (by decide)) (q_tn (sc_v hp hL (by decide)) ?_)
  refine q_aload_nF rfl rfl rfl ?_
  refine q_iload rfl rfl rfl ?_
  refine q_iconst rfl rfl ?_
  refine q_iadd rfl rfl (q_tn (z := nI (p + 4)) (nI_add p 4) ?_)
  refine q_ialdF rfl rfl (sc_i hp hL (by decide)) (q_tn (sc_v hp hL (by decide)) ?_)
  refine q_cV rfl rfl (Or.inl rfl) rfl rfl rfl rfl (by omega) hob trivial rfl (c2 := c) (s2 := s) rfl rfl rfl rfl (l_rcode hG1) ?_
  rintro r T2 m9 ⟨en, e2, z', θ', rfl, hG2, hr⟩
  subst m9
  show PQ (j_SL Ls) (j_SV xs) j_EX mm_L_law 254 [.float 5, .ref 0, .ref 46, .ref 81, .int (nI p), a5, a6, a7] [.int z'] T2 n c s K
  refine q_pop rfl rfl ?_
  refine q_goto rfl ?_
  exact hk θ' T2 n c s a5 a6 a7 hG2 (j2_smf θ' T1 T2 (hz z' θ' hr) (smf_of e2 hn rfl)) (by omega) (by omega)
theorem p_claim (L : Nat) (xs : Nat → Int32) (hL : L ≤ 3072) : pm_W j_ft j_df (j_SL L) (j_SV xs) j_MT j_EX mm_L_law (0, pm_en 8 [.float 5], [], [], 0, 0) (fun r _ => r = some (.int 1)) := by
  have key : PQ (j_SL L) (j_SV xs) j_EX mm_L_law 0 [.float 5, pm_un, pm_un, pm_un, pm_un, pm_un, pm_un, pm_un] [] (fun _ => .inr (99, [])) 0 0 0 (fun r _ _ => r = some (.int 1)) :=
    t_run (J := J2) j2_smf (k_0 (by omega)) (k_1 (by omega)) (k_2 (by omega)) (fun _ _ => rfl) hL (fun S hW => j2_init hW)
  unfold PQ at key
  exact pm_W_mono _ _ _ _ _ _ key (fun r h' => by rintro ⟨S', n', -, e⟩; exact e)
end WZ
