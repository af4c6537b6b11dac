/-! p26: the cases by hand, the claim on the pure machine -/
section WZ
variable {Ls : Nat} {xs : Nat → Int32} {K : q_K}
theorem k_0 (hL : Ls < 2 ^ 31) : OKJ (fun _ _ => True) Ls xs K 172 := fun θ S n c s p a5 a6 a7 hG _ hp hc hs hk => g_op0 hG hp hL hc hs (fun θ' S' n' c' s' b5 b6 b7 g h1 h2 => hk θ' S' n' c' s' b5 b6 b7 g trivial h1 h2)
theorem k_1 (hL : Ls < 2 ^ 31) : OKJ (fun _ _ => True) Ls xs K 197 := fun θ S n c s p a5 a6 a7 hG _ hp hc hs hk => g_op1 hG hp hL hc hs (fun θ' S' n' c' s' b5 b6 b7 g h1 h2 => hk θ' S' n' c' s' b5 b6 b7 g trivial h1 h2)
theorem k_2 (hL : Ls < 2 ^ 31) : OKJ (fun _ _ => True) Ls xs K 258 := fun θ S n c s p a5 a6 a7 hG _ hp hc hs hk => g_op2 hG hp hL hc hs (fun θ' S' n' c' s' b5 b6 b7 g h1 h2 => hk θ' S' n' c' s' b5 b6 b7 g trivial h1 h2)
set_option maxHeartbeats 4000000 in
theorem k_24 (hL : Ls < 2 ^ 31) : OKJ (fun _ _ => True) Ls xs K 1028 := by
  intro θ S n c s p a5 a6 a7 hG hj hp hc hs hk
  have hn := gs_n hG
  obtain ⟨fs, k0, -, -, -⟩ := gs_0 hG
  refine q_aload_n rfl rfl rfl ?_
  refine q_aload_nF rfl rfl rfl ?_
  refine q_iload rfl rfl rfl ?_
  refine q_iconst rfl rfl ?_
  refine q_iadd rfl rfl (q_tn (z := nI (p + 1)) (nI_add p 1) ?_)
  refine q_ialdF rfl rfl (sc_i hp hL (by decide)) (q_tn (sc_v hp hL (by decide)) ?_)
  refine q_aload_nF rfl rfl rfl ?_
  refine q_iload rfl rfl rfl ?_
  refine q_iconst rfl rfl ?_
  refine q_iadd rfl rfl (q_tn (z := nI (p + 2)) (nI_add p 2) ?_)
  refine q_ialdF rfl rfl (sc_i hp hL (by decide)) (q_tn (sc_v hp hL (by decide)) ?_)
  refine q_aload_nF rfl rfl rfl ?_
  refine q_iload rfl rfl rfl ?_
  refine q_iconst rfl rfl ?_
  refine q_iadd rfl rfl (q_tn (z := nI (p + 3)) (nI_add p 3) ?_)
  refine q_ialdF rfl rfl (sc_i hp hL (by decide)) (q_tn (sc_v hp hL (by decide)) ?_)
  refine q_cV rfl rfl (Or.inl rfl) rfl rfl rfl rfl (by omega) k0 ⟨Nat.ble_eq_true_of_le (show c + 4 ≤ 601024 by omega), Nat.ble_eq_true_of_le (show s + 122 ≤ 7293033 by omega)⟩ rfl (c2 := c + 4) (s2 := s + 122) rfl rfl rfl rfl (c_mk hG) ?_
  rintro r T1 n1 ⟨le1, hG1, e1, z, rfl, hz⟩
  show PQ (j_SL Ls) (j_SV xs) j_EX mm_L_law 1050 [.float 5, .ref 0, .ref 46, .ref 81, .int (nI p), a5, a6, a7] [.int z] T1 n1 (c + 4) (s + 122) K
  have hn1 := gs_n hG1
  obtain ⟨ob, hob, -⟩ := gs_obj hG1 (k := 46) rfl
  refine q_aload_n rfl rfl rfl ?_
  refine q_aload_nF rfl rfl rfl ?_
  refine q_iload rfl rfl rfl ?_
  refine q_iconst rfl rfl ?_
  refine q_iadd rfl rfl (q_tn (z := nI (p + 1)) (nI_add p 1) ?_)
  refine q_ialdF rfl rfl (sc_i hp hL (by decide)) (q_tn (sc_v hp hL (by decide)) ?_)
  refine q_aload_nF rfl rfl rfl ?_
  refine q_iload rfl rfl rfl ?_
  refine q_iconst rfl rfl ?_
  refine q_iadd rfl rfl (q_tn (z := nI (p + 2)) (nI_add p 2) ?_)
  refine q_ialdF rfl rfl (sc_i hp hL (by decide)) (q_tn (sc_v hp hL (by decide)) ?_)
  refine q_aload_nF rfl rfl rfl ?_
  refine q_iload rfl rfl rfl ?_
  refine q_iconst rfl rfl ?_
  refine q_iadd rfl rfl (q_tn (z := nI (p + 3)) (nI_add p 3) ?_)
  refine q_ialdF rfl rfl (sc_i hp hL (by decide)) (q_tn (sc_v hp hL (by decide)) ?_)
  refine q_cV rfl rfl (Or.inl rfl) rfl rfl rfl rfl (by omega) hob trivial rfl (c2 := (c + 4)) (s2 := (s + 122)) rfl rfl rfl rfl (l_rmk hG1) ?_
  rintro r T2 m9 ⟨en, hG2, e2, z', rfl, hz', -⟩
  subst en
  show PQ (j_SL Ls) (j_SV xs) j_EX mm_L_law 1072 [.float 5, .ref 0, .ref 46, .ref 81, .int (nI p), a5, a6, a7] [.int z', .int z] T2 n1 (c + 4) (s + 122) K
  refine q_iceq rfl rfl (fun _ => ?_) (fun c9 => absurd (mkR_fn hz hz') c9)
  exact hk θ T2 n1 (c + 4) (s + 122) a5 a6 a7 hG2 (trivial) (by omega) (by omega)
theorem p_claim (L : Nat) (xs : Nat → Int32) (hL : L ≤ 3072) : pm_W j_ft j_df (j_SL L) (j_SV xs) j_MT j_EX mm_L_law (0, pm_en 8 [.float 5], [], [], 0, 0) (fun r _ => r = some (.int 1)) := by
  have key : PQ (j_SL L) (j_SV xs) j_EX mm_L_law 0 [.float 5, pm_un, pm_un, pm_un, pm_un, pm_un, pm_un, pm_un] [] (fun _ => .inr (99, [])) 0 0 0 (fun r _ _ => r = some (.int 1)) :=
    t_run (J := fun _ _ => True) (fun _ _ _ _ _ => trivial) (k_0 (by omega)) (k_1 (by omega)) (k_2 (by omega)) (k_24 (by omega)) (fun _ _ => rfl) hL (fun _ _ => trivial)
  unfold PQ at key
  exact pm_W_mono _ _ _ _ _ _ key (fun r h' => by rintro ⟨S', n', -, e⟩; exact e)
end WZ
