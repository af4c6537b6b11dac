section TR
variable {EX : pm_M → pm_C → (pm_C → Prop) → Prop} {xs : Nat → Int32} {K : q_K}
set_option maxHeartbeats 40000000 in
set_option maxRecDepth 20000 in
theorem t_x21 {K : q_K} {S : Nat → pm_E} (hW : FW S) (hK : ∀ T, FM S T → K (some (.int 31)) T 82) : PQ (j_SL 6) (j_SV xs) EX mm_X11_explain 0 [.ref 0] [] S 82 0 0 K := by
  refine q_aload_n rfl rfl rfl ?_
  refine q_nV0 rfl rfl (Or.inl rfl) rfl rfl rfl (by decide) (FW_0 S hW) ⟨rfl, rfl⟩ rfl ?_
  change PQ _ _ _ mm_X11_someSpent 0 [.ref 0, pm_un, pm_un] [] _ _ 0 0 _
  refine q_iconst rfl rfl ?_
  refine q_ist1n rfl rfl rfl rfl ?_
  refine q_iconst rfl rfl ?_
  refine q_ist2n rfl rfl rfl rfl ?_
  refine q_iload_n rfl rfl rfl ?_
  refine q_iconst rfl rfl ?_
  refine q_icge rfl rfl (fun c1 => absurd c1 (by decide)) (fun c1 => ?_)
  refine q_iload_n rfl rfl rfl ?_
  refine q_aload_n rfl rfl rfl ?_
  refine q_iload_n rfl rfl rfl ?_
  refine q_nV1 rfl rfl (Or.inl rfl) rfl rfl rfl (by decide) (FW_0 S hW) ⟨rfl, rfl⟩ rfl ?_
  change PQ _ _ _ mm_X11_sizeOf 0 [.ref 0, .int 0, pm_un] [] _ _ 0 0 _
  refine q_aload_n rfl rfl rfl ?_
  refine q_getf rfl rfl (by decide) (FW_0 S hW) rfl ?_
  refine q_iload_n rfl rfl rfl ?_
  refine q_iald rfl rfl (by decide) (FW_44 S hW) (by decide) (q_tn (z := 0) rfl ?_)
  refine q_ifne rfl rfl (fun c2 => ?_) (fun c2 => absurd (by decide) c2)
  refine q_iload_n rfl rfl rfl ?_
  refine q_ifne rfl rfl (fun c3 => ?_) (fun c3 => absurd (by decide) c3)
  refine q_aload_n rfl rfl rfl ?_
  refine q_getf rfl rfl (by decide) (FW_0 S hW) rfl ?_
  refine q_goto rfl ?_
  refine q_ast2n rfl rfl rfl rfl ?_
  refine q_aload_n rfl rfl rfl ?_
  refine q_getf rfl rfl (by decide) (FW_0 S hW) rfl ?_
  refine q_iload_n rfl rfl rfl ?_
  refine q_putf rfl rfl (by decide) (FW_7 S hW) (by decide) rfl trivial ?_
  refine q_aload_n rfl rfl rfl ?_
  refine q_aload_n rfl rfl rfl ?_
  refine q_getf rfl rfl (by decide) (FW_0 S hW) rfl ?_
  refine q_iconst rfl rfl ?_
  refine q_nV2v rfl rfl (Or.inl rfl) rfl rfl rfl (by decide) (FW_8 S hW) ⟨rfl, rfl⟩ rfl ?_
  change PQ _ _ _ mm_X7_explore 0 [.ref 8, .ref 7, .int 0, pm_un] [] _ _ 0 0 _
  refine q_aload_n rfl rfl rfl ?_
  refine q_nV0v rfl rfl (Or.inl rfl) rfl rfl rfl (by decide) (FW_8 S hW) ⟨rfl, rfl⟩ rfl ?_
  change PQ _ _ _ mm_X7_clear 0 [.ref 8, pm_un] [] _ _ 0 0 _
  refine q_iconst rfl rfl ?_
  refine q_ist1n rfl rfl rfl rfl ?_
  refine q_iload_n rfl rfl rfl ?_
  refine q_aload_n rfl rfl rfl ?_
  refine q_getf rfl rfl (by decide) (FW_8 S hW) rfl ?_
  refine q_icge rfl rfl (fun c4 => ?_) (fun c4 => absurd (by decide) c4)
  refine q_aload_n rfl rfl rfl ?_
  refine q_iconst rfl rfl ?_
  refine q_putf rfl rfl (by decide) (FW_8 S hW) (by decide) rfl trivial ?_
  refine q_aload_n rfl rfl rfl ?_
  refine q_iconst rfl rfl ?_
  refine q_putf rfl rfl (by decide) rfl (by decide) rfl rfl ?_
  refine q_aload_n rfl rfl rfl ?_
  refine q_iconst rfl rfl ?_
  refine q_putf rfl rfl (by decide) rfl (by decide) rfl rfl ?_
  refine q_aload_n rfl rfl rfl ?_
  refine q_lconst rfl rfl ?_
  refine q_putf rfl rfl (by decide) rfl (by decide) rfl trivial ?_
  refine q_ret rfl rfl ?_
  refine ⟨rfl, ?_⟩
  refine q_aload_n rfl rfl rfl ?_
  refine q_aload_n rfl rfl rfl ?_
  refine q_nV0 rfl rfl (Or.inl rfl) rfl rfl rfl (by decide) rfl ⟨rfl, rfl⟩ rfl ?_
  change PQ _ _ _ mm_X6_first 0 [.ref 7, pm_un, pm_un, pm_un] [] _ _ 0 0 _
  refine q_lconst rfl rfl ?_
  refine q_lst1n rfl rfl rfl rfl ?_
  refine q_iconst rfl rfl ?_
  refine q_ist3n rfl rfl rfl rfl ?_
  refine q_iload_n rfl rfl rfl ?_
  refine q_iconst rfl rfl ?_
  refine q_icge rfl rfl (fun c5 => absurd c5 (by decide)) (fun c5 => ?_)
  refine q_lload_n rfl rfl rfl ?_
  refine q_iload_n rfl rfl rfl ?_
  refine q_aload_n rfl rfl rfl ?_
  refine q_getf rfl rfl (by decide) rfl rfl ?_
  refine q_getf rfl rfl (by decide) (FW_1 S hW) rfl ?_
  refine q_iload_n rfl rfl rfl ?_
  refine q_iald rfl rfl (by decide) (FW_2 S hW) (by decide) (q_tn (z := 0) rfl ?_)
  refine q_nS3 rfl rfl (Or.inl rfl) rfl rfl ⟨rfl, rfl⟩ rfl ?_
  change PQ _ _ _ mm_X0_withPlace 0 [.long 0, pm_un, .int 0, .int 0, pm_un] [] _ _ 0 0 _
  refine q_bipush rfl rfl ?_
  refine q_iconst rfl rfl ?_
  refine q_iload_n rfl rfl rfl ?_
  refine q_imul rfl rfl (q_tn (z := 0) rfl ?_)
  refine q_iadd rfl rfl (q_tn (z := 36) rfl ?_)
  refine q_ist4 rfl rfl rfl rfl ?_
  refine q_lload_n rfl rfl rfl ?_
  refine q_ldc2 rfl rfl ?_
  refine q_iload rfl rfl rfl ?_
  refine q_lshl rfl rfl (q_tnl (z := 1030792151040) rfl ?_)
  refine q_ldc2 rfl rfl ?_
  refine q_lxor rfl rfl (q_tnl (z := (-1030792151041)) rfl ?_)
  refine q_land rfl rfl (q_tnl (z := 0) rfl ?_)
  refine q_iload_n rfl rfl rfl ?_
  refine q_i2l rfl rfl (q_tnl (z := 0) rfl ?_)
  refine q_iload rfl rfl rfl ?_
  refine q_lshl rfl rfl (q_tnl (z := 0) rfl ?_)
  refine q_lor rfl rfl (q_tnl (z := 0) rfl ?_)
  refine q_lret rfl rfl trivial ?_
  refine ⟨_, rfl, ?_⟩
  refine q_lst1n rfl rfl rfl rfl ?_
  refine q_icc3 (z := 1) rfl rfl rfl rfl rfl ?_
  refine q_goto rfl ?_
  refine q_iload_n rfl rfl rfl ?_
  refine q_iconst rfl rfl ?_
  refine q_icge rfl rfl (fun c6 => absurd c6 (by decide)) (fun c6 => ?_)
  refine q_lload_n rfl rfl rfl ?_
  refine q_iload_n rfl rfl rfl ?_
  refine q_aload_n rfl rfl rfl ?_
  refine q_getf rfl rfl (by decide) rfl rfl ?_
  refine q_getf rfl rfl (by decide) (FW_1 S hW) rfl ?_
  refine q_iload_n rfl rfl rfl ?_
  refine q_iald rfl rfl (by decide) (FW_2 S hW) (by decide) (q_tn (z := 0) rfl ?_)
  refine q_nS3 rfl rfl (Or.inl rfl) rfl rfl ⟨rfl, rfl⟩ rfl ?_
  change PQ _ _ _ mm_X0_withPlace 0 [.long 0, pm_un, .int 1, .int 0, pm_un] [] _ _ 0 0 _
  refine q_bipush rfl rfl ?_
  refine q_iconst rfl rfl ?_
  refine q_iload_n rfl rfl rfl ?_
  refine q_imul rfl rfl (q_tn (z := 4) rfl ?_)
  refine q_iadd rfl rfl (q_tn (z := 40) rfl ?_)
  refine q_ist4 rfl rfl rfl rfl ?_
  refine q_lload_n rfl rfl rfl ?_
  refine q_ldc2 rfl rfl ?_
  refine q_iload rfl rfl rfl ?_
  refine q_lshl rfl rfl (q_tnl (z := 16492674416640) rfl ?_)
  refine q_ldc2 rfl rfl ?_
  refine q_lxor rfl rfl (q_tnl (z := (-16492674416641)) rfl ?_)
  refine q_land rfl rfl (q_tnl (z := 0) rfl ?_)
  refine q_iload_n rfl rfl rfl ?_
  refine q_i2l rfl rfl (q_tnl (z := 0) rfl ?_)
  refine q_iload rfl rfl rfl ?_
  refine q_lshl rfl rfl (q_tnl (z := 0) rfl ?_)
  refine q_lor rfl rfl (q_tnl (z := 0) rfl ?_)
  refine q_lret rfl rfl trivial ?_
  refine ⟨_, rfl, ?_⟩
  refine q_lst1n rfl rfl rfl rfl ?_
  refine q_icc3 (z := 2) rfl rfl rfl rfl rfl ?_
  refine q_goto rfl ?_
  refine q_iload_n rfl rfl rfl ?_
  refine q_iconst rfl rfl ?_
  refine q_icge rfl rfl (fun c7 => absurd c7 (by decide)) (fun c7 => ?_)
  refine q_lload_n rfl rfl rfl ?_
  refine q_iload_n rfl rfl rfl ?_
  refine q_aload_n rfl rfl rfl ?_
  refine q_getf rfl rfl (by decide) rfl rfl ?_
  refine q_getf rfl rfl (by decide) (FW_1 S hW) rfl ?_
  refine q_iload_n rfl rfl rfl ?_
  refine q_iald rfl rfl (by decide) (FW_2 S hW) (by decide) (q_tn (z := 0) rfl ?_)
  refine q_nS3 rfl rfl (Or.inl rfl) rfl rfl ⟨rfl, rfl⟩ rfl ?_
  change PQ _ _ _ mm_X0_withPlace 0 [.long 0, pm_un, .int 2, .int 0, pm_un] [] _ _ 0 0 _
  refine q_bipush rfl rfl ?_
  refine q_iconst rfl rfl ?_
  refine q_iload_n rfl rfl rfl ?_
  refine q_imul rfl rfl (q_tn (z := 8) rfl ?_)
  refine q_iadd rfl rfl (q_tn (z := 44) rfl ?_)
  refine q_ist4 rfl rfl rfl rfl ?_
  refine q_lload_n rfl rfl rfl ?_
  refine q_ldc2 rfl rfl ?_
  refine q_iload rfl rfl rfl ?_
  refine q_lshl rfl rfl (q_tnl (z := 263882790666240) rfl ?_)
  refine q_ldc2 rfl rfl ?_
  refine q_lxor rfl rfl (q_tnl (z := (-263882790666241)) rfl ?_)
  refine q_land rfl rfl (q_tnl (z := 0) rfl ?_)
  refine q_iload_n rfl rfl rfl ?_
  refine q_i2l rfl rfl (q_tnl (z := 0) rfl ?_)
  refine q_iload rfl rfl rfl ?_
  refine q_lshl rfl rfl (q_tnl (z := 0) rfl ?_)
  refine q_lor rfl rfl (q_tnl (z := 0) rfl ?_)
  refine q_lret rfl rfl trivial ?_
  refine ⟨_, rfl, ?_⟩
  refine q_lst1n rfl rfl rfl rfl ?_
  refine q_icc3 (z := 3) rfl rfl rfl rfl rfl ?_
  refine q_goto rfl ?_
  refine q_iload_n rfl rfl rfl ?_
  refine q_iconst rfl rfl ?_
  refine q_icge rfl rfl (fun c8 => absurd c8 (by decide)) (fun c8 => ?_)
  refine q_lload_n rfl rfl rfl ?_
  refine q_iload_n rfl rfl rfl ?_
  refine q_aload_n rfl rfl rfl ?_
  refine q_getf rfl rfl (by decide) rfl rfl ?_
  refine q_getf rfl rfl (by decide) (FW_1 S hW) rfl ?_
  refine q_iload_n rfl rfl rfl ?_
  refine q_iald rfl rfl (by decide) (FW_2 S hW) (by decide) (q_tn (z := 0) rfl ?_)
  refine q_nS3 rfl rfl (Or.inl rfl) rfl rfl ⟨rfl, rfl⟩ rfl ?_
  change PQ _ _ _ mm_X0_withPlace 0 [.long 0, pm_un, .int 3, .int 0, pm_un] [] _ _ 0 0 _
  refine q_bipush rfl rfl ?_
  refine q_iconst rfl rfl ?_
  refine q_iload_n rfl rfl rfl ?_
  refine q_imul rfl rfl (q_tn (z := 12) rfl ?_)
  refine q_iadd rfl rfl (q_tn (z := 48) rfl ?_)
  refine q_ist4 rfl rfl rfl rfl ?_
  refine q_lload_n rfl rfl rfl ?_
  refine q_ldc2 rfl rfl ?_
  refine q_iload rfl rfl rfl ?_
  refine q_lshl rfl rfl (q_tnl (z := 4222124650659840) rfl ?_)
  refine q_ldc2 rfl rfl ?_
  refine q_lxor rfl rfl (q_tnl (z := (-4222124650659841)) rfl ?_)
  refine q_land rfl rfl (q_tnl (z := 0) rfl ?_)
  refine q_iload_n rfl rfl rfl ?_
  refine q_i2l rfl rfl (q_tnl (z := 0) rfl ?_)
  refine q_iload rfl rfl rfl ?_
  refine q_lshl rfl rfl (q_tnl (z := 0) rfl ?_)
  refine q_lor rfl rfl (q_tnl (z := 0) rfl ?_)
  refine q_lret rfl rfl trivial ?_
  refine ⟨_, rfl, ?_⟩
  refine q_lst1n rfl rfl rfl rfl ?_
  refine q_icc3 (z := 4) rfl rfl rfl rfl rfl ?_
  refine q_goto rfl ?_
  refine q_iload_n rfl rfl rfl ?_
  refine q_iconst rfl rfl ?_
  refine q_icge rfl rfl (fun c9 => ?_) (fun c9 => absurd (by decide) c9)
  refine q_lload_n rfl rfl rfl ?_
  refine q_lret rfl rfl trivial ?_
  refine ⟨_, rfl, ?_⟩
  refine q_iconst rfl rfl ?_
  refine q_iconst rfl rfl ?_
  refine q_nV3 rfl rfl (Or.inl rfl) rfl rfl rfl (by decide) rfl ⟨rfl, rfl⟩ rfl ?_
  change PQ _ _ _ mm_X7_numberOf 0 [.ref 8, .long 0, pm_un, .int (-1), .int (-1), pm_un, pm_un, pm_un] [] _ _ 0 0 _
  refine q_lload_n rfl rfl rfl ?_
  refine q_ldc2 rfl rfl ?_
  refine q_lmul rfl rfl (q_tnl (z := 0) rfl ?_)
  refine q_bipush rfl rfl ?_
  refine q_lushr rfl rfl (q_tnl (z := 0) rfl ?_)
  refine q_l2i rfl rfl (q_tn (z := 0) rfl ?_)
  refine q_sipush rfl rfl ?_
  refine q_iand rfl rfl (q_tn (z := 0) rfl ?_)
  refine q_ist5 rfl rfl rfl rfl ?_
  refine q_iconst rfl rfl ?_
  refine q_ist6 rfl rfl rfl rfl ?_
  refine q_iload rfl rfl rfl ?_
  refine q_sipush rfl rfl ?_
  refine q_icge rfl rfl (fun c10 => absurd c10 (by decide)) (fun c10 => ?_)
  refine q_aload_n rfl rfl rfl ?_
  refine q_getf rfl rfl (by decide) rfl rfl ?_
  refine q_iload rfl rfl rfl ?_
  refine q_iald rfl rfl (by decide) (FW_14 S hW) (by decide) (q_tn (z := 0) rfl ?_)
  refine q_iconst rfl rfl ?_
  refine q_isub rfl rfl (q_tn (z := (-1)) rfl ?_)
  refine q_ist7 rfl rfl rfl rfl ?_
  refine q_iload rfl rfl rfl ?_
  refine q_ifge rfl rfl (fun c11 => absurd c11 (by decide)) (fun c11 => ?_)
  refine q_aload_n rfl rfl rfl ?_
  refine q_lload_n rfl rfl rfl ?_
  refine q_iload rfl rfl rfl ?_
  refine q_iload_n rfl rfl rfl ?_
  refine q_iload rfl rfl rfl ?_
  refine q_nV4 rfl rfl (Or.inl rfl) rfl rfl rfl (by decide) rfl ⟨rfl, rfl⟩ rfl ?_
  change PQ _ _ _ mm_X7_newNumber 0 [.ref 8, .long 0, pm_un, .int 0, .int (-1), .int (-1), pm_un] [] _ _ 0 0 _
  refine q_aload_n rfl rfl rfl ?_
  refine q_getf rfl rfl (by decide) rfl rfl ?_
  refine q_sipush rfl rfl ?_
  refine q_iclt rfl rfl (fun c12 => ?_) (fun c12 => absurd (by decide) c12)
  refine q_aload_n rfl rfl rfl ?_
  refine q_dupr rfl rfl ?_
  refine q_getf rfl rfl (by decide) rfl rfl ?_
  refine q_dupx1 rfl rfl ?_
  refine q_iconst rfl rfl ?_
  refine q_iadd rfl rfl (q_tn (z := 1) rfl ?_)
  refine q_putf rfl rfl (by decide) rfl (by decide) rfl trivial ?_
  refine q_ist6 rfl rfl rfl rfl ?_
  refine q_aload_n rfl rfl rfl ?_
  refine q_getf rfl rfl (by decide) rfl rfl ?_
  refine q_iload rfl rfl rfl ?_
  refine q_lload_n rfl rfl rfl ?_
  refine q_last rfl rfl (by decide) (FW_9 S hW) (by decide) ?_
  refine q_aload_n rfl rfl rfl ?_
  refine q_getf rfl rfl (by decide) rfl rfl ?_
  refine q_iload rfl rfl rfl ?_
  refine q_iload rfl rfl rfl ?_
  refine q_iast rfl rfl (by decide) (FW_10 S hW) (by decide) ?_
  refine q_aload_n rfl rfl rfl ?_
  refine q_getf rfl rfl (by decide) rfl rfl ?_
  refine q_iload rfl rfl rfl ?_
  refine q_iload rfl rfl rfl ?_
  refine q_iast rfl rfl (by decide) (FW_11 S hW) (by decide) ?_
  refine q_aload_n rfl rfl rfl ?_
  refine q_getf rfl rfl (by decide) rfl rfl ?_
  refine q_iload rfl rfl rfl ?_
  refine q_iload_n rfl rfl rfl ?_
  refine q_iast rfl rfl (by decide) (FW_15 S hW) (by decide) ?_
  refine q_aload_n rfl rfl rfl ?_
  refine q_getf rfl rfl (by decide) rfl rfl ?_
  refine q_iload_n rfl rfl rfl ?_
  refine q_iload rfl rfl rfl ?_
  refine q_iconst rfl rfl ?_
  refine q_iadd rfl rfl (q_tn (z := 1) rfl ?_)
  refine q_iast rfl rfl (by decide) (FW_14 S hW) (by decide) ?_
  refine q_iload rfl rfl rfl ?_
  refine q_iret rfl rfl trivial ?_
  refine ⟨_, rfl, ?_⟩
  refine q_iret rfl rfl trivial ?_
  refine ⟨_, rfl, ?_⟩
  refine q_pop rfl rfl ?_
  refine q_iconst rfl rfl ?_
  refine q_ist3n rfl rfl rfl rfl ?_
  refine q_iload_n rfl rfl rfl ?_
  refine q_sipush rfl rfl ?_
  refine q_icge rfl rfl (fun c13 => absurd c13 (by decide)) (fun c13 => ?_)
  refine q_iload_n rfl rfl rfl ?_
  refine q_aload_n rfl rfl rfl ?_
  refine q_getf rfl rfl (by decide) rfl rfl ?_
  refine q_icge rfl rfl (fun c14 => absurd c14 (by decide)) (fun c14 => ?_)
  refine q_aload_n rfl rfl rfl ?_
  refine q_aload_n rfl rfl rfl ?_
  refine q_iload_n rfl rfl rfl ?_
  refine q_nV2v rfl rfl (Or.inl rfl) rfl rfl rfl (by decide) rfl ⟨rfl, rfl⟩ rfl ?_
  change PQ _ _ _ mm_X7_lookAt 0 [.ref 8, .ref 7, .int 0, pm_un, pm_un, pm_un, pm_un, pm_un, pm_un, pm_un] [] _ _ 0 0 _
  refine q_aload_n rfl rfl rfl ?_
  refine q_getf rfl rfl (by decide) rfl rfl ?_
  refine q_iload_n rfl rfl rfl ?_
  refine q_lald rfl rfl (by decide) rfl (by decide) (q_tnl (z := 0) rfl ?_)
  refine q_lst3n rfl rfl rfl rfl ?_
  refine q_aload_n rfl rfl rfl ?_
  refine q_aload_n rfl rfl rfl ?_
  refine q_lload_n rfl rfl rfl ?_
  refine q_nV1 rfl rfl (Or.inl rfl) rfl rfl rfl (by decide) rfl ⟨rfl, rfl⟩ rfl ?_
  change PQ _ _ _ mm_X6_ableHands 0 [.ref 7, .long 0, pm_un, pm_un, pm_un, pm_un] [] _ _ 0 0 _
  refine q_aload_n rfl rfl rfl ?_
  refine q_lload_n rfl rfl rfl ?_
  refine q_nV1 rfl rfl (Or.inl rfl) rfl rfl rfl (by decide) rfl ⟨rfl, rfl⟩ rfl ?_
  change PQ _ _ _ mm_X6_allMeet 0 [.ref 7, .long 0, pm_un, pm_un, pm_un] [] _ _ 0 0 _
  refine q_iconst rfl rfl ?_
  refine q_ist3n rfl rfl rfl rfl ?_
  refine q_iload_n rfl rfl rfl ?_
  refine q_aload_n rfl rfl rfl ?_
  refine q_getf rfl rfl (by decide) rfl rfl ?_
  refine q_getf rfl rfl (by decide) (FW_1 S hW) rfl ?_
  refine q_icge rfl rfl (fun c15 => absurd c15 (by decide)) (fun c15 => ?_)
  refine q_aload_n rfl rfl rfl ?_
  refine q_getf rfl rfl (by decide) rfl rfl ?_
  refine q_iload_n rfl rfl rfl ?_
  refine q_lload_n rfl rfl rfl ?_
  refine q_iload_n rfl rfl rfl ?_
  refine q_nS2 rfl rfl (Or.inl rfl) rfl rfl ⟨rfl, rfl⟩ rfl ?_
  change PQ _ _ _ mm_X0_position 0 [.long 0, pm_un, .int 0] [] _ _ 0 0 _
  refine q_lload_n rfl rfl rfl ?_
  refine q_bipush rfl rfl ?_
  refine q_iload_n rfl rfl rfl ?_
  refine q_imul rfl rfl (q_tn (z := 0) rfl ?_)
  refine q_lushr rfl rfl (q_tnl (z := 0) rfl ?_)
  refine q_l2i rfl rfl (q_tn (z := 0) rfl ?_)
  refine q_bipush rfl rfl ?_
  refine q_iand rfl rfl (q_tn (z := 0) rfl ?_)
  refine q_iret rfl rfl trivial ?_
  refine ⟨_, rfl, ?_⟩
  refine q_nV2 rfl rfl (Or.inl rfl) rfl rfl rfl (by decide) (FW_1 S hW) ⟨rfl, rfl⟩ rfl ?_
  change PQ _ _ _ mm_X8_cellOf 0 [.ref 1, .int 0, .int 0, pm_un] [] _ _ 0 0 _
  refine q_iload_n rfl rfl rfl ?_
  refine q_iflt rfl rfl (fun c16 => absurd c16 (by decide)) (fun c16 => ?_)
  refine q_iload_n rfl rfl rfl ?_
  refine q_aload_n rfl rfl rfl ?_
  refine q_getf rfl rfl (by decide) (FW_1 S hW) rfl ?_
  refine q_icge rfl rfl (fun c17 => absurd c17 (by decide)) (fun c17 => ?_)
  refine q_iload_n rfl rfl rfl ?_
  refine q_iflt rfl rfl (fun c18 => absurd c18 (by decide)) (fun c18 => ?_)
  refine q_iload_n rfl rfl rfl ?_
  refine q_aload_n rfl rfl rfl ?_
  refine q_getf rfl rfl (by decide) (FW_1 S hW) rfl ?_
  refine q_iload_n rfl rfl rfl ?_
  refine q_iald rfl rfl (by decide) (FW_3 S hW) (by decide) (q_tn (z := 0) rfl ?_)
  refine q_icge rfl rfl (fun c19 => ?_) (fun c19 => absurd (by decide) c19)
  refine q_iconst rfl rfl ?_
  refine q_ist3n rfl rfl rfl rfl ?_
  refine q_iload_n rfl rfl rfl ?_
  refine q_ifeq rfl rfl (fun c20 => ?_) (fun c20 => absurd (by decide) c20)
  refine q_iconst rfl rfl ?_
  refine q_iret rfl rfl trivial ?_
  refine ⟨_, rfl, ?_⟩
  refine q_ist4 rfl rfl rfl rfl ?_
  refine q_iload rfl rfl rfl ?_
  refine q_iflt rfl rfl (fun c21 => ?_) (fun c21 => absurd (by decide) c21)
  refine q_icc3 (z := 1) rfl rfl rfl rfl rfl ?_
  refine q_goto rfl ?_
  refine q_iload_n rfl rfl rfl ?_
  refine q_aload_n rfl rfl rfl ?_
  refine q_getf rfl rfl (by decide) rfl rfl ?_
  refine q_getf rfl rfl (by decide) (FW_1 S hW) rfl ?_
  refine q_icge rfl rfl (fun c22 => ?_) (fun c22 => absurd (by decide) c22)
  refine q_iconst rfl rfl ?_
  refine q_iret rfl rfl rfl ?_
  refine ⟨_, rfl, ?_⟩
  refine q_ist3n rfl rfl rfl rfl ?_
  refine q_iconst rfl rfl ?_
  refine q_ist4 rfl rfl rfl rfl ?_
  refine q_iconst rfl rfl ?_
  refine q_ist5 rfl rfl rfl rfl ?_
  refine q_iload rfl rfl rfl ?_
  refine q_aload_n rfl rfl rfl ?_
  refine q_getf rfl rfl (by decide) rfl rfl ?_
  refine q_getf rfl rfl (by decide) (FW_1 S hW) rfl ?_
  refine q_icge rfl rfl (fun c23 => absurd c23 (by decide)) (fun c23 => ?_)
  refine q_aload_n rfl rfl rfl ?_
  refine q_lload_n rfl rfl rfl ?_
  refine q_iload rfl rfl rfl ?_
  refine q_iload_n rfl rfl rfl ?_
  refine q_nV3 rfl rfl (Or.inl rfl) rfl rfl rfl (by decide) rfl ⟨rfl, rfl⟩ rfl ?_
  change PQ _ _ _ mm_X6_isAble 0 [.ref 7, .long 0, pm_un, .int 0, .int 1, pm_un, pm_un, pm_un] [] _ _ 0 0 _
  refine q_aload_n rfl rfl rfl ?_
  refine q_getf rfl rfl (by decide) rfl rfl ?_
  refine q_iload_n rfl rfl rfl ?_
  refine q_lload_n rfl rfl rfl ?_
  refine q_iload_n rfl rfl rfl ?_
  refine q_nS2 rfl rfl (Or.inl rfl) rfl rfl ⟨rfl, rfl⟩ rfl ?_
  change PQ _ _ _ mm_X0_position 0 [.long 0, pm_un, .int 0] [] _ _ 0 0 _
  refine q_lload_n rfl rfl rfl ?_
  refine q_bipush rfl rfl ?_
  refine q_iload_n rfl rfl rfl ?_
  refine q_imul rfl rfl (q_tn (z := 0) rfl ?_)
  refine q_lushr rfl rfl (q_tnl (z := 0) rfl ?_)
  refine q_l2i rfl rfl (q_tn (z := 0) rfl ?_)
  refine q_bipush rfl rfl ?_
  refine q_iand rfl rfl (q_tn (z := 0) rfl ?_)
  refine q_iret rfl rfl trivial ?_
  refine ⟨_, rfl, ?_⟩
  refine q_nV2 rfl rfl (Or.inl rfl) rfl rfl rfl (by decide) (FW_1 S hW) ⟨rfl, rfl⟩ rfl ?_
  change PQ _ _ _ mm_X8_cellOf 0 [.ref 1, .int 0, .int 0, pm_un] [] _ _ 0 0 _
  refine q_iload_n rfl rfl rfl ?_
  refine q_iflt rfl rfl (fun c24 => absurd c24 (by decide)) (fun c24 => ?_)
  refine q_iload_n rfl rfl rfl ?_
  refine q_aload_n rfl rfl rfl ?_
  refine q_getf rfl rfl (by decide) (FW_1 S hW) rfl ?_
  refine q_icge rfl rfl (fun c25 => absurd c25 (by decide)) (fun c25 => ?_)
  refine q_iload_n rfl rfl rfl ?_
  refine q_iflt rfl rfl (fun c26 => absurd c26 (by decide)) (fun c26 => ?_)
  refine q_iload_n rfl rfl rfl ?_
  refine q_aload_n rfl rfl rfl ?_
  refine q_getf rfl rfl (by decide) (FW_1 S hW) rfl ?_
  refine q_iload_n rfl rfl rfl ?_
  refine q_iald rfl rfl (by decide) (FW_3 S hW) (by decide) (q_tn (z := 0) rfl ?_)
  refine q_icge rfl rfl (fun c27 => ?_) (fun c27 => absurd (by decide) c27)
  refine q_iconst rfl rfl ?_
  refine q_ist3n rfl rfl rfl rfl ?_
  refine q_iload_n rfl rfl rfl ?_
  refine q_ifeq rfl rfl (fun c28 => ?_) (fun c28 => absurd (by decide) c28)
  refine q_iconst rfl rfl ?_
  refine q_iret rfl rfl trivial ?_
  refine ⟨_, rfl, ?_⟩
  refine q_ist5 rfl rfl rfl rfl ?_
  refine q_iload rfl rfl rfl ?_
  refine q_ifge rfl rfl (fun c29 => absurd c29 (by decide)) (fun c29 => ?_)
  refine q_iconst rfl rfl ?_
  refine q_iret rfl rfl rfl ?_
  refine ⟨_, rfl, ?_⟩
  refine q_ifeq rfl rfl (fun c30 => ?_) (fun c30 => absurd (by decide) c30)
  refine q_icc5 (z := 1) rfl rfl rfl rfl rfl ?_
  refine q_goto rfl ?_
  refine q_iload rfl rfl rfl ?_
  refine q_aload_n rfl rfl rfl ?_
  refine q_getf rfl rfl (by decide) rfl rfl ?_
  refine q_getf rfl rfl (by decide) (FW_1 S hW) rfl ?_
  refine q_icge rfl rfl (fun c31 => ?_) (fun c31 => absurd (by decide) c31)
  refine q_iload rfl rfl rfl ?_
  refine q_iret rfl rfl trivial ?_
  refine ⟨_, rfl, ?_⟩
  refine q_lload_n rfl rfl rfl ?_
  refine q_nS1 rfl rfl (Or.inl rfl) rfl rfl ⟨rfl, rfl⟩ rfl ?_
  change PQ _ _ _ mm_X0_last 0 [.long 0, pm_un] [] _ _ 0 0 _
  refine q_lload_n rfl rfl rfl ?_
  refine q_bipush rfl rfl ?_
  refine q_lushr rfl rfl (q_tnl (z := 0) rfl ?_)
  refine q_l2i rfl rfl (q_tn (z := 0) rfl ?_)
  refine q_iconst rfl rfl ?_
  refine q_iand rfl rfl (q_tn (z := 0) rfl ?_)
  refine q_iconst rfl rfl ?_
  refine q_isub rfl rfl (q_tn (z := (-1)) rfl ?_)
  refine q_iret rfl rfl trivial ?_
  refine ⟨_, rfl, ?_⟩
  refine q_nV2 rfl rfl (Or.inl rfl) rfl rfl rfl (by decide) rfl ⟨rfl, rfl⟩ rfl ?_
  change PQ _ _ _ mm_X6_chosenHands 0 [.ref 7, .int 0, .int (-1), pm_un, pm_un] [] _ _ 0 0 _
  refine q_aload_n rfl rfl rfl ?_
  refine q_getf rfl rfl (by decide) rfl rfl ?_
  refine q_iconst rfl rfl ?_
  refine q_icne rfl rfl (fun c32 => absurd c32 (by decide)) (fun c32 => ?_)
  refine q_aload_n rfl rfl rfl ?_
  refine q_getf rfl rfl (by decide) rfl rfl ?_
  refine q_iconst rfl rfl ?_
  refine q_iceq rfl rfl (fun c33 => absurd c33 (by decide)) (fun c33 => ?_)
  refine q_iload_n rfl rfl rfl ?_
  refine q_iret rfl rfl trivial ?_
  refine ⟨_, rfl, ?_⟩
  refine q_ist5 rfl rfl rfl rfl ?_
  refine q_iconst rfl rfl ?_
  refine q_ist6 rfl rfl rfl rfl ?_
  refine q_iload rfl rfl rfl ?_
  refine q_iconst rfl rfl ?_
  refine q_icge rfl rfl (fun c34 => absurd c34 (by decide)) (fun c34 => ?_)
  refine q_iconst rfl rfl ?_
  refine q_ist7 rfl rfl rfl rfl ?_
  refine q_iload rfl rfl rfl ?_
  refine q_iload rfl rfl rfl ?_
  refine q_iushr rfl rfl (q_tn (z := 0) rfl ?_)
  refine q_iconst rfl rfl ?_
  refine q_iand rfl rfl (q_tn (z := 0) rfl ?_)
  refine q_ifeq rfl rfl (fun c35 => ?_) (fun c35 => absurd (by decide) c35)
  refine q_aload_n rfl rfl rfl ?_
  refine q_getf rfl rfl (by decide) rfl rfl ?_
  refine q_iload_n rfl rfl rfl ?_
  refine q_iconst rfl rfl ?_
  refine q_imul rfl rfl (q_tn (z := 0) rfl ?_)
  refine q_iload rfl rfl rfl ?_
  refine q_iadd rfl rfl (q_tn (z := 0) rfl ?_)
  refine q_iload rfl rfl rfl ?_
  refine q_iast rfl rfl (by decide) (FW_13 S hW) (by decide) ?_
  refine q_icc6 (z := 1) rfl rfl rfl rfl rfl ?_
  refine q_goto rfl ?_
  refine q_iload rfl rfl rfl ?_
  refine q_iconst rfl rfl ?_
  refine q_icge rfl rfl (fun c36 => absurd c36 (by decide)) (fun c36 => ?_)
  refine q_iconst rfl rfl ?_
  refine q_ist7 rfl rfl rfl rfl ?_
  refine q_iload rfl rfl rfl ?_
  refine q_iload rfl rfl rfl ?_
  refine q_iushr rfl rfl (q_tn (z := 0) rfl ?_)
  refine q_iconst rfl rfl ?_
  refine q_iand rfl rfl (q_tn (z := 0) rfl ?_)
  refine q_ifeq rfl rfl (fun c37 => ?_) (fun c37 => absurd (by decide) c37)
  refine q_aload_n rfl rfl rfl ?_
  refine q_getf rfl rfl (by decide) rfl rfl ?_
  refine q_iload_n rfl rfl rfl ?_
  refine q_iconst rfl rfl ?_
  refine q_imul rfl rfl (q_tn (z := 0) rfl ?_)
  refine q_iload rfl rfl rfl ?_
  refine q_iadd rfl rfl (q_tn (z := 1) rfl ?_)
  refine q_iload rfl rfl rfl ?_
  refine q_iast rfl rfl (by decide) rfl (by decide) ?_
  refine q_icc6 (z := 2) rfl rfl rfl rfl rfl ?_
  refine q_goto rfl ?_
  refine q_iload rfl rfl rfl ?_
  refine q_iconst rfl rfl ?_
  refine q_icge rfl rfl (fun c38 => absurd c38 (by decide)) (fun c38 => ?_)
  refine q_iconst rfl rfl ?_
  refine q_ist7 rfl rfl rfl rfl ?_
  refine q_iload rfl rfl rfl ?_
  refine q_iload rfl rfl rfl ?_
  refine q_iushr rfl rfl (q_tn (z := 0) rfl ?_)
  refine q_iconst rfl rfl ?_
  refine q_iand rfl rfl (q_tn (z := 0) rfl ?_)
  refine q_ifeq rfl rfl (fun c39 => ?_) (fun c39 => absurd (by decide) c39)
  refine q_aload_n rfl rfl rfl ?_
  refine q_getf rfl rfl (by decide) rfl rfl ?_
  refine q_iload_n rfl rfl rfl ?_
  refine q_iconst rfl rfl ?_
  refine q_imul rfl rfl (q_tn (z := 0) rfl ?_)
  refine q_iload rfl rfl rfl ?_
  refine q_iadd rfl rfl (q_tn (z := 2) rfl ?_)
  refine q_iload rfl rfl rfl ?_
  refine q_iast rfl rfl (by decide) rfl (by decide) ?_
  refine q_icc6 (z := 3) rfl rfl rfl rfl rfl ?_
  refine q_goto rfl ?_
  refine q_iload rfl rfl rfl ?_
  refine q_iconst rfl rfl ?_
  refine q_icge rfl rfl (fun c40 => ?_) (fun c40 => absurd (by decide) c40)
  refine q_aload_n rfl rfl rfl ?_
  refine q_getf rfl rfl (by decide) rfl rfl ?_
  refine q_iload_n rfl rfl rfl ?_
  refine q_iload rfl rfl rfl ?_
  refine q_ifeq rfl rfl (fun c41 => ?_) (fun c41 => absurd (by decide) c41)
  refine q_aload_n rfl rfl rfl ?_
  refine q_lload_n rfl rfl rfl ?_
  refine q_nV1 rfl rfl (Or.inl rfl) rfl rfl rfl (by decide) rfl ⟨rfl, rfl⟩ rfl ?_
  change PQ _ _ _ mm_X6_isEnd 0 [.ref 7, .long 0, pm_un, pm_un] [] _ _ 0 0 _
  refine q_iconst rfl rfl ?_
  refine q_ist3n rfl rfl rfl rfl ?_
  refine q_iload_n rfl rfl rfl ?_
  refine q_aload_n rfl rfl rfl ?_
  refine q_getf rfl rfl (by decide) rfl rfl ?_
  refine q_getf rfl rfl (by decide) (FW_1 S hW) rfl ?_
  refine q_icge rfl rfl (fun c42 => absurd c42 (by decide)) (fun c42 => ?_)
  refine q_aload_n rfl rfl rfl ?_
  refine q_getf rfl rfl (by decide) rfl rfl ?_
  refine q_iload_n rfl rfl rfl ?_
  refine q_lload_n rfl rfl rfl ?_
  refine q_iload_n rfl rfl rfl ?_
  refine q_nS2 rfl rfl (Or.inl rfl) rfl rfl ⟨rfl, rfl⟩ rfl ?_
  change PQ _ _ _ mm_X0_position 0 [.long 0, pm_un, .int 0] [] _ _ 0 0 _
  refine q_lload_n rfl rfl rfl ?_
  refine q_bipush rfl rfl ?_
  refine q_iload_n rfl rfl rfl ?_
  refine q_imul rfl rfl (q_tn (z := 0) rfl ?_)
  refine q_lushr rfl rfl (q_tnl (z := 0) rfl ?_)
  refine q_l2i rfl rfl (q_tn (z := 0) rfl ?_)
  refine q_bipush rfl rfl ?_
  refine q_iand rfl rfl (q_tn (z := 0) rfl ?_)
  refine q_iret rfl rfl trivial ?_
  refine ⟨_, rfl, ?_⟩
  refine q_nV2 rfl rfl (Or.inl rfl) rfl rfl rfl (by decide) (FW_1 S hW) ⟨rfl, rfl⟩ rfl ?_
  change PQ _ _ _ mm_X8_cellOf 0 [.ref 1, .int 0, .int 0, pm_un] [] _ _ 0 0 _
  refine q_iload_n rfl rfl rfl ?_
  refine q_iflt rfl rfl (fun c43 => absurd c43 (by decide)) (fun c43 => ?_)
  refine q_iload_n rfl rfl rfl ?_
  refine q_aload_n rfl rfl rfl ?_
  refine q_getf rfl rfl (by decide) (FW_1 S hW) rfl ?_
  refine q_icge rfl rfl (fun c44 => absurd c44 (by decide)) (fun c44 => ?_)
  refine q_iload_n rfl rfl rfl ?_
  refine q_iflt rfl rfl (fun c45 => absurd c45 (by decide)) (fun c45 => ?_)
  refine q_iload_n rfl rfl rfl ?_
  refine q_aload_n rfl rfl rfl ?_
  refine q_getf rfl rfl (by decide) (FW_1 S hW) rfl ?_
  refine q_iload_n rfl rfl rfl ?_
  refine q_iald rfl rfl (by decide) (FW_3 S hW) (by decide) (q_tn (z := 0) rfl ?_)
  refine q_icge rfl rfl (fun c46 => ?_) (fun c46 => absurd (by decide) c46)
  refine q_iconst rfl rfl ?_
  refine q_ist3n rfl rfl rfl rfl ?_
  refine q_iload_n rfl rfl rfl ?_
  refine q_ifeq rfl rfl (fun c47 => ?_) (fun c47 => absurd (by decide) c47)
  refine q_iconst rfl rfl ?_
  refine q_iret rfl rfl trivial ?_
  refine ⟨_, rfl, ?_⟩
  refine q_iflt rfl rfl (fun c48 => ?_) (fun c48 => absurd (by decide) c48)
  refine q_icc3 (z := 1) rfl rfl rfl rfl rfl ?_
  refine q_goto rfl ?_
  refine q_iload_n rfl rfl rfl ?_
  refine q_aload_n rfl rfl rfl ?_
  refine q_getf rfl rfl (by decide) rfl rfl ?_
  refine q_getf rfl rfl (by decide) (FW_1 S hW) rfl ?_
  refine q_icge rfl rfl (fun c49 => ?_) (fun c49 => absurd (by decide) c49)
  refine q_iconst rfl rfl ?_
  refine q_iret rfl rfl rfl ?_
  refine ⟨_, rfl, ?_⟩
  refine q_ifeq rfl rfl (fun c50 => absurd c50 (by decide)) (fun c50 => ?_)
  refine q_iconst rfl rfl ?_
  refine q_goto rfl ?_
  refine q_iast rfl rfl (by decide) (FW_12 S hW) (by decide) ?_
  refine q_aload_n rfl rfl rfl ?_
  refine q_dupr rfl rfl ?_
  refine q_getf rfl rfl (by decide) rfl rfl ?_
  refine q_aload_n rfl rfl rfl ?_
  refine q_getf rfl rfl (by decide) rfl rfl ?_
  refine q_iload_n rfl rfl rfl ?_
  refine q_iald rfl rfl (by decide) rfl (by decide) (q_tn (z := 1) rfl ?_)
  refine q_iconst rfl rfl ?_
  refine q_iceq rfl rfl (fun c51 => absurd c51 (by decide)) (fun c51 => ?_)
  refine q_aload_n rfl rfl rfl ?_
  refine q_lload_n rfl rfl rfl ?_
  refine q_nV1 rfl rfl (Or.inl rfl) rfl rfl rfl (by decide) rfl ⟨rfl, rfl⟩ rfl ?_
  change PQ _ _ _ mm_X6_someFailed 0 [.ref 7, .long 0, pm_un, pm_un] [] _ _ 0 0 _
  refine q_iconst rfl rfl ?_
  refine q_ist3n rfl rfl rfl rfl ?_
  refine q_iload_n rfl rfl rfl ?_
  refine q_aload_n rfl rfl rfl ?_
  refine q_getf rfl rfl (by decide) rfl rfl ?_
  refine q_getf rfl rfl (by decide) (FW_1 S hW) rfl ?_
  refine q_icge rfl rfl (fun c52 => absurd c52 (by decide)) (fun c52 => ?_)
  refine q_lload_n rfl rfl rfl ?_
  refine q_iload_n rfl rfl rfl ?_
  refine q_nS2 rfl rfl (Or.inl rfl) rfl rfl ⟨rfl, rfl⟩ rfl ?_
  change PQ _ _ _ mm_X0_position 0 [.long 0, pm_un, .int 0] [] _ _ 0 0 _
  refine q_lload_n rfl rfl rfl ?_
  refine q_bipush rfl rfl ?_
  refine q_iload_n rfl rfl rfl ?_
  refine q_imul rfl rfl (q_tn (z := 0) rfl ?_)
  refine q_lushr rfl rfl (q_tnl (z := 0) rfl ?_)
  refine q_l2i rfl rfl (q_tn (z := 0) rfl ?_)
  refine q_bipush rfl rfl ?_
  refine q_iand rfl rfl (q_tn (z := 0) rfl ?_)
  refine q_iret rfl rfl trivial ?_
  refine ⟨_, rfl, ?_⟩
  refine q_bipush rfl rfl ?_
  refine q_icne rfl rfl (fun c53 => absurd c53 (by decide)) (fun c53 => ?_)
  refine q_icc3 (z := 1) rfl rfl rfl rfl rfl ?_
  refine q_goto rfl ?_
  refine q_iload_n rfl rfl rfl ?_
  refine q_aload_n rfl rfl rfl ?_
  refine q_getf rfl rfl (by decide) rfl rfl ?_
  refine q_getf rfl rfl (by decide) (FW_1 S hW) rfl ?_
  refine q_icge rfl rfl (fun c54 => ?_) (fun c54 => absurd (by decide) c54)
  refine q_iconst rfl rfl ?_
  refine q_iret rfl rfl rfl ?_
  refine ⟨_, rfl, ?_⟩
  refine q_ifeq rfl rfl (fun c55 => ?_) (fun c55 => absurd (by decide) c55)
  refine q_iconst rfl rfl ?_
  refine q_ior rfl rfl (q_tn (z := 0) rfl ?_)
  refine q_putf rfl rfl (by decide) rfl (by decide) rfl rfl ?_
  refine q_aload_n rfl rfl rfl ?_
  refine q_getf rfl rfl (by decide) rfl rfl ?_
  refine q_iload_n rfl rfl rfl ?_
  refine q_iald rfl rfl (by decide) rfl (by decide) (q_tn (z := 1) rfl ?_)
  refine q_iconst rfl rfl ?_
  refine q_icne rfl rfl (fun c56 => ?_) (fun c56 => absurd (by decide) c56)
  refine q_aload_n rfl rfl rfl ?_
  refine q_lload_n rfl rfl rfl ?_
  refine q_nV1v rfl rfl (Or.inl rfl) rfl rfl rfl (by decide) rfl ⟨rfl, rfl⟩ rfl ?_
  change PQ _ _ _ mm_X7_noteEnd 0 [.ref 8, .long 0, pm_un, pm_un] [] _ _ 0 0 _
  refine q_iconst rfl rfl ?_
  refine q_ist3n rfl rfl rfl rfl ?_
  refine q_iload_n rfl rfl rfl ?_
  refine q_iconst rfl rfl ?_
  refine q_icge rfl rfl (fun c57 => absurd c57 (by decide)) (fun c57 => ?_)
  refine q_aload_n rfl rfl rfl ?_
  refine q_dupr rfl rfl ?_
  refine q_getf rfl rfl (by decide) rfl rfl ?_
  refine q_lconst rfl rfl ?_
  refine q_bipush rfl rfl ?_
  refine q_iload_n rfl rfl rfl ?_
  refine q_imul rfl rfl (q_tn (z := 0) rfl ?_)
  refine q_lload_n rfl rfl rfl ?_
  refine q_iload_n rfl rfl rfl ?_
  refine q_nS2 rfl rfl (Or.inl rfl) rfl rfl ⟨rfl, rfl⟩ rfl ?_
  change PQ _ _ _ mm_X0_place 0 [.long 0, pm_un, .int 0] [] _ _ 0 0 _
  refine q_lload_n rfl rfl rfl ?_
  refine q_bipush rfl rfl ?_
  refine q_iconst rfl rfl ?_
  refine q_iload_n rfl rfl rfl ?_
  refine q_imul rfl rfl (q_tn (z := 0) rfl ?_)
  refine q_iadd rfl rfl (q_tn (z := 36) rfl ?_)
  refine q_lushr rfl rfl (q_tnl (z := 0) rfl ?_)
  refine q_l2i rfl rfl (q_tn (z := 0) rfl ?_)
  refine q_bipush rfl rfl ?_
  refine q_iand rfl rfl (q_tn (z := 0) rfl ?_)
  refine q_iret rfl rfl trivial ?_
  refine ⟨_, rfl, ?_⟩
  refine q_iadd rfl rfl (q_tn (z := 0) rfl ?_)
  refine q_lshl rfl rfl (q_tnl (z := 1) rfl ?_)
  refine q_lor rfl rfl (q_tnl (z := 1) rfl ?_)
  refine q_putf rfl rfl (by decide) rfl (by decide) rfl trivial ?_
  refine q_icc3 (z := 1) rfl rfl rfl rfl rfl ?_
  refine q_goto rfl ?_
  refine q_iload_n rfl rfl rfl ?_
  refine q_iconst rfl rfl ?_
  refine q_icge rfl rfl (fun c58 => absurd c58 (by decide)) (fun c58 => ?_)
  refine q_aload_n rfl rfl rfl ?_
  refine q_dupr rfl rfl ?_
  refine q_getf rfl rfl (by decide) rfl rfl ?_
  refine q_lconst rfl rfl ?_
  refine q_bipush rfl rfl ?_
  refine q_iload_n rfl rfl rfl ?_
  refine q_imul rfl rfl (q_tn (z := 10) rfl ?_)
  refine q_lload_n rfl rfl rfl ?_
  refine q_iload_n rfl rfl rfl ?_
  refine q_nS2 rfl rfl (Or.inl rfl) rfl rfl ⟨rfl, rfl⟩ rfl ?_
  change PQ _ _ _ mm_X0_place 0 [.long 0, pm_un, .int 1] [] _ _ 0 0 _
  refine q_lload_n rfl rfl rfl ?_
  refine q_bipush rfl rfl ?_
  refine q_iconst rfl rfl ?_
  refine q_iload_n rfl rfl rfl ?_
  refine q_imul rfl rfl (q_tn (z := 4) rfl ?_)
  refine q_iadd rfl rfl (q_tn (z := 40) rfl ?_)
  refine q_lushr rfl rfl (q_tnl (z := 0) rfl ?_)
  refine q_l2i rfl rfl (q_tn (z := 0) rfl ?_)
  refine q_bipush rfl rfl ?_
  refine q_iand rfl rfl (q_tn (z := 0) rfl ?_)
  refine q_iret rfl rfl trivial ?_
  refine ⟨_, rfl, ?_⟩
  refine q_iadd rfl rfl (q_tn (z := 10) rfl ?_)
  refine q_lshl rfl rfl (q_tnl (z := 1024) rfl ?_)
  refine q_lor rfl rfl (q_tnl (z := 1025) rfl ?_)
  refine q_putf rfl rfl (by decide) rfl (by decide) rfl trivial ?_
  refine q_icc3 (z := 2) rfl rfl rfl rfl rfl ?_
  refine q_goto rfl ?_
  refine q_iload_n rfl rfl rfl ?_
  refine q_iconst rfl rfl ?_
  refine q_icge rfl rfl (fun c59 => absurd c59 (by decide)) (fun c59 => ?_)
  refine q_aload_n rfl rfl rfl ?_
  refine q_dupr rfl rfl ?_
  refine q_getf rfl rfl (by decide) rfl rfl ?_
  refine q_lconst rfl rfl ?_
  refine q_bipush rfl rfl ?_
  refine q_iload_n rfl rfl rfl ?_
  refine q_imul rfl rfl (q_tn (z := 20) rfl ?_)
  refine q_lload_n rfl rfl rfl ?_
  refine q_iload_n rfl rfl rfl ?_
  refine q_nS2 rfl rfl (Or.inl rfl) rfl rfl ⟨rfl, rfl⟩ rfl ?_
  change PQ _ _ _ mm_X0_place 0 [.long 0, pm_un, .int 2] [] _ _ 0 0 _
  refine q_lload_n rfl rfl rfl ?_
  refine q_bipush rfl rfl ?_
  refine q_iconst rfl rfl ?_
  refine q_iload_n rfl rfl rfl ?_
  refine q_imul rfl rfl (q_tn (z := 8) rfl ?_)
  refine q_iadd rfl rfl (q_tn (z := 44) rfl ?_)
  refine q_lushr rfl rfl (q_tnl (z := 0) rfl ?_)
  refine q_l2i rfl rfl (q_tn (z := 0) rfl ?_)
  refine q_bipush rfl rfl ?_
  refine q_iand rfl rfl (q_tn (z := 0) rfl ?_)
  refine q_iret rfl rfl trivial ?_
  refine ⟨_, rfl, ?_⟩
  refine q_iadd rfl rfl (q_tn (z := 20) rfl ?_)
  refine q_lshl rfl rfl (q_tnl (z := 1048576) rfl ?_)
  refine q_lor rfl rfl (q_tnl (z := 1049601) rfl ?_)
  refine q_putf rfl rfl (by decide) rfl (by decide) rfl trivial ?_
  refine q_icc3 (z := 3) rfl rfl rfl rfl rfl ?_
  refine q_goto rfl ?_
  refine q_iload_n rfl rfl rfl ?_
  refine q_iconst rfl rfl ?_
  refine q_icge rfl rfl (fun c60 => absurd c60 (by decide)) (fun c60 => ?_)
  refine q_aload_n rfl rfl rfl ?_
  refine q_dupr rfl rfl ?_
  refine q_getf rfl rfl (by decide) rfl rfl ?_
  refine q_lconst rfl rfl ?_
  refine q_bipush rfl rfl ?_
  refine q_iload_n rfl rfl rfl ?_
  refine q_imul rfl rfl (q_tn (z := 30) rfl ?_)
  refine q_lload_n rfl rfl rfl ?_
  refine q_iload_n rfl rfl rfl ?_
  refine q_nS2 rfl rfl (Or.inl rfl) rfl rfl ⟨rfl, rfl⟩ rfl ?_
  change PQ _ _ _ mm_X0_place 0 [.long 0, pm_un, .int 3] [] _ _ 0 0 _
  refine q_lload_n rfl rfl rfl ?_
  refine q_bipush rfl rfl ?_
  refine q_iconst rfl rfl ?_
  refine q_iload_n rfl rfl rfl ?_
  refine q_imul rfl rfl (q_tn (z := 12) rfl ?_)
  refine q_iadd rfl rfl (q_tn (z := 48) rfl ?_)
  refine q_lushr rfl rfl (q_tnl (z := 0) rfl ?_)
  refine q_l2i rfl rfl (q_tn (z := 0) rfl ?_)
  refine q_bipush rfl rfl ?_
  refine q_iand rfl rfl (q_tn (z := 0) rfl ?_)
  refine q_iret rfl rfl trivial ?_
  refine ⟨_, rfl, ?_⟩
  refine q_iadd rfl rfl (q_tn (z := 30) rfl ?_)
  refine q_lshl rfl rfl (q_tnl (z := 1073741824) rfl ?_)
  refine q_lor rfl rfl (q_tnl (z := 1074791425) rfl ?_)
  refine q_putf rfl rfl (by decide) rfl (by decide) rfl trivial ?_
  refine q_icc3 (z := 4) rfl rfl rfl rfl rfl ?_
  refine q_goto rfl ?_
  refine q_iload_n rfl rfl rfl ?_
  refine q_iconst rfl rfl ?_
  refine q_icge rfl rfl (fun c61 => ?_) (fun c61 => absurd (by decide) c61)
  refine q_ret rfl rfl ?_
  refine ⟨rfl, ?_⟩
  refine q_ret rfl rfl ?_
  refine ⟨rfl, ?_⟩
  refine q_aload_n rfl rfl rfl ?_
  refine q_getf rfl rfl (by decide) rfl rfl ?_
  refine q_ifne rfl rfl (fun c62 => ?_) (fun c62 => absurd (by decide) c62)
  refine q_iload_n rfl rfl rfl ?_
  refine q_ifeq rfl rfl (fun c63 => ?_) (fun c63 => absurd (by decide) c63)
  refine q_icc3 (z := 1) rfl rfl rfl rfl rfl ?_
  refine q_goto rfl ?_
  refine q_iload_n rfl rfl rfl ?_
  refine q_sipush rfl rfl ?_
  refine q_icge rfl rfl (fun c64 => absurd c64 (by decide)) (fun c64 => ?_)
  refine q_iload_n rfl rfl rfl ?_
  refine q_aload_n rfl rfl rfl ?_
  refine q_getf rfl rfl (by decide) rfl rfl ?_
  refine q_icge rfl rfl (fun c65 => ?_) (fun c65 => absurd (by decide) c65)
  refine q_ret rfl rfl ?_
  refine ⟨rfl, ?_⟩
  refine q_aload_n rfl rfl rfl ?_
  refine q_getf rfl rfl (by decide) (FW_0 S hW) rfl ?_
  refine q_iconst rfl rfl ?_
  refine q_putf rfl rfl (by decide) rfl (by decide) rfl trivial ?_
  refine q_aload_n rfl rfl rfl ?_
  refine q_getf rfl rfl (by decide) (FW_0 S hW) rfl ?_
  refine q_iload_n rfl rfl rfl ?_
  refine q_aload_n rfl rfl rfl ?_
  refine q_getf rfl rfl (by decide) rfl rfl ?_
  refine q_ifeq rfl rfl (fun c66 => ?_) (fun c66 => absurd (by decide) c66)
  refine q_aload_n rfl rfl rfl ?_
  refine q_getf rfl rfl (by decide) rfl rfl ?_
  refine q_iast rfl rfl (by decide) (FW_44 S hW) (by decide) ?_
  refine q_aload_n rfl rfl rfl ?_
  refine q_getf rfl rfl (by decide) (FW_0 S hW) rfl ?_
  refine q_iload_n rfl rfl rfl ?_
  refine q_aload_n rfl rfl rfl ?_
  refine q_getf rfl rfl (by decide) rfl rfl ?_
  refine q_last rfl rfl (by decide) (FW_45 S hW) (by decide) ?_
  refine q_aload_n rfl rfl rfl ?_
  refine q_getf rfl rfl (by decide) (FW_0 S hW) rfl ?_
  refine q_iload_n rfl rfl rfl ?_
  refine q_iald rfl rfl (by decide) rfl (by decide) (q_tn (z := 1) rfl ?_)
  refine q_iret rfl rfl trivial ?_
  refine ⟨_, rfl, ?_⟩
  refine q_bipush rfl rfl ?_
  refine q_icne rfl rfl (fun c67 => absurd c67 (by decide)) (fun c67 => ?_)
  refine q_iconst rfl rfl ?_
  refine q_ior rfl rfl (q_tn (z := 0) rfl ?_)
  refine q_ist1n rfl rfl rfl rfl ?_
  refine q_icc2 (z := 1) rfl rfl rfl rfl rfl ?_
  refine q_goto rfl ?_
  refine q_iload_n rfl rfl rfl ?_
  refine q_iconst rfl rfl ?_
  refine q_icge rfl rfl (fun c68 => absurd c68 (by decide)) (fun c68 => ?_)
  refine q_iload_n rfl rfl rfl ?_
  refine q_aload_n rfl rfl rfl ?_
  refine q_iload_n rfl rfl rfl ?_
  refine q_nV1 rfl rfl (Or.inl rfl) rfl rfl rfl (by decide) (FW_0 S hW) ⟨rfl, rfl⟩ rfl ?_
  change PQ _ _ _ mm_X11_sizeOf 0 [.ref 0, .int 1, pm_un] [] _ _ 0 0 _
  refine q_aload_n rfl rfl rfl ?_
  refine q_getf rfl rfl (by decide) (FW_0 S hW) rfl ?_
  refine q_iload_n rfl rfl rfl ?_
  refine q_iald rfl rfl (by decide) rfl (by decide) (q_tn (z := 0) rfl ?_)
  refine q_ifne rfl rfl (fun c69 => ?_) (fun c69 => absurd (by decide) c69)
  refine q_iload_n rfl rfl rfl ?_
  refine q_ifne rfl rfl (fun c70 => absurd c70 (by decide)) (fun c70 => ?_)
  refine q_aload_n rfl rfl rfl ?_
  refine q_getf rfl rfl (by decide) (FW_0 S hW) rfl ?_
  refine q_ast2n rfl rfl rfl rfl ?_
  refine q_aload_n rfl rfl rfl ?_
  refine q_getf rfl rfl (by decide) (FW_0 S hW) rfl ?_
  refine q_iload_n rfl rfl rfl ?_
  refine q_putf rfl rfl (by decide) rfl (by decide) rfl trivial ?_
  refine q_aload_n rfl rfl rfl ?_
  refine q_aload_n rfl rfl rfl ?_
  refine q_getf rfl rfl (by decide) (FW_0 S hW) rfl ?_
  refine q_iconst rfl rfl ?_
  refine q_nV2v rfl rfl (Or.inl rfl) rfl rfl rfl (by decide) (FW_16 S hW) ⟨rfl, rfl⟩ rfl ?_
  change PQ _ _ _ mm_X7_explore 0 [.ref 16, .ref 7, .int 0, pm_un] [] _ _ 0 0 _
  refine q_aload_n rfl rfl rfl ?_
  refine q_nV0v rfl rfl (Or.inl rfl) rfl rfl rfl (by decide) (FW_16 S hW) ⟨rfl, rfl⟩ rfl ?_
  change PQ _ _ _ mm_X7_clear 0 [.ref 16, pm_un] [] _ _ 0 0 _
  refine q_iconst rfl rfl ?_
  refine q_ist1n rfl rfl rfl rfl ?_
  refine q_iload_n rfl rfl rfl ?_
  refine q_aload_n rfl rfl rfl ?_
  refine q_getf rfl rfl (by decide) (FW_16 S hW) rfl ?_
  refine q_icge rfl rfl (fun c71 => ?_) (fun c71 => absurd (by decide) c71)
  refine q_aload_n rfl rfl rfl ?_
  refine q_iconst rfl rfl ?_
  refine q_putf rfl rfl (by decide) (FW_16 S hW) (by decide) rfl trivial ?_
  refine q_aload_n rfl rfl rfl ?_
  refine q_iconst rfl rfl ?_
  refine q_putf rfl rfl (by decide) rfl (by decide) rfl rfl ?_
  refine q_aload_n rfl rfl rfl ?_
  refine q_iconst rfl rfl ?_
  refine q_putf rfl rfl (by decide) rfl (by decide) rfl rfl ?_
  refine q_aload_n rfl rfl rfl ?_
  refine q_lconst rfl rfl ?_
  refine q_putf rfl rfl (by decide) rfl (by decide) rfl trivial ?_
  refine q_ret rfl rfl ?_
  refine ⟨rfl, ?_⟩
  refine q_aload_n rfl rfl rfl ?_
  refine q_aload_n rfl rfl rfl ?_
  refine q_nV0 rfl rfl (Or.inl rfl) rfl rfl rfl (by decide) rfl ⟨rfl, rfl⟩ rfl ?_
  change PQ _ _ _ mm_X6_first 0 [.ref 7, pm_un, pm_un, pm_un] [] _ _ 0 0 _
  refine q_lconst rfl rfl ?_
  refine q_lst1n rfl rfl rfl rfl ?_
  refine q_iconst rfl rfl ?_
  refine q_ist3n rfl rfl rfl rfl ?_
  refine q_iload_n rfl rfl rfl ?_
  refine q_iconst rfl rfl ?_
  refine q_icge rfl rfl (fun c72 => absurd c72 (by decide)) (fun c72 => ?_)
  refine q_lload_n rfl rfl rfl ?_
  refine q_iload_n rfl rfl rfl ?_
  refine q_aload_n rfl rfl rfl ?_
  refine q_getf rfl rfl (by decide) rfl rfl ?_
  refine q_getf rfl rfl (by decide) (FW_1 S hW) rfl ?_
  refine q_iload_n rfl rfl rfl ?_
  refine q_iald rfl rfl (by decide) (FW_2 S hW) (by decide) (q_tn (z := 0) rfl ?_)
  refine q_nS3 rfl rfl (Or.inl rfl) rfl rfl ⟨rfl, rfl⟩ rfl ?_
  change PQ _ _ _ mm_X0_withPlace 0 [.long 0, pm_un, .int 0, .int 0, pm_un] [] _ _ 0 0 _
  refine q_bipush rfl rfl ?_
  refine q_iconst rfl rfl ?_
  refine q_iload_n rfl rfl rfl ?_
  refine q_imul rfl rfl (q_tn (z := 0) rfl ?_)
  refine q_iadd rfl rfl (q_tn (z := 36) rfl ?_)
  refine q_ist4 rfl rfl rfl rfl ?_
  refine q_lload_n rfl rfl rfl ?_
  refine q_ldc2 rfl rfl ?_
  refine q_iload rfl rfl rfl ?_
  refine q_lshl rfl rfl (q_tnl (z := 1030792151040) rfl ?_)
  refine q_ldc2 rfl rfl ?_
  refine q_lxor rfl rfl (q_tnl (z := (-1030792151041)) rfl ?_)
  refine q_land rfl rfl (q_tnl (z := 0) rfl ?_)
  refine q_iload_n rfl rfl rfl ?_
  refine q_i2l rfl rfl (q_tnl (z := 0) rfl ?_)
  refine q_iload rfl rfl rfl ?_
  refine q_lshl rfl rfl (q_tnl (z := 0) rfl ?_)
  refine q_lor rfl rfl (q_tnl (z := 0) rfl ?_)
  refine q_lret rfl rfl trivial ?_
  refine ⟨_, rfl, ?_⟩
  refine q_lst1n rfl rfl rfl rfl ?_
  refine q_icc3 (z := 1) rfl rfl rfl rfl rfl ?_
  refine q_goto rfl ?_
  refine q_iload_n rfl rfl rfl ?_
  refine q_iconst rfl rfl ?_
  refine q_icge rfl rfl (fun c73 => absurd c73 (by decide)) (fun c73 => ?_)
  refine q_lload_n rfl rfl rfl ?_
  refine q_iload_n rfl rfl rfl ?_
  refine q_aload_n rfl rfl rfl ?_
  refine q_getf rfl rfl (by decide) rfl rfl ?_
  refine q_getf rfl rfl (by decide) (FW_1 S hW) rfl ?_
  refine q_iload_n rfl rfl rfl ?_
  refine q_iald rfl rfl (by decide) (FW_2 S hW) (by decide) (q_tn (z := 0) rfl ?_)
  refine q_nS3 rfl rfl (Or.inl rfl) rfl rfl ⟨rfl, rfl⟩ rfl ?_
  change PQ _ _ _ mm_X0_withPlace 0 [.long 0, pm_un, .int 1, .int 0, pm_un] [] _ _ 0 0 _
  refine q_bipush rfl rfl ?_
  refine q_iconst rfl rfl ?_
  refine q_iload_n rfl rfl rfl ?_
  refine q_imul rfl rfl (q_tn (z := 4) rfl ?_)
  refine q_iadd rfl rfl (q_tn (z := 40) rfl ?_)
  refine q_ist4 rfl rfl rfl rfl ?_
  refine q_lload_n rfl rfl rfl ?_
  refine q_ldc2 rfl rfl ?_
  refine q_iload rfl rfl rfl ?_
  refine q_lshl rfl rfl (q_tnl (z := 16492674416640) rfl ?_)
  refine q_ldc2 rfl rfl ?_
  refine q_lxor rfl rfl (q_tnl (z := (-16492674416641)) rfl ?_)
  refine q_land rfl rfl (q_tnl (z := 0) rfl ?_)
  refine q_iload_n rfl rfl rfl ?_
  refine q_i2l rfl rfl (q_tnl (z := 0) rfl ?_)
  refine q_iload rfl rfl rfl ?_
  refine q_lshl rfl rfl (q_tnl (z := 0) rfl ?_)
  refine q_lor rfl rfl (q_tnl (z := 0) rfl ?_)
  refine q_lret rfl rfl trivial ?_
  refine ⟨_, rfl, ?_⟩
  refine q_lst1n rfl rfl rfl rfl ?_
  refine q_icc3 (z := 2) rfl rfl rfl rfl rfl ?_
  refine q_goto rfl ?_
  refine q_iload_n rfl rfl rfl ?_
  refine q_iconst rfl rfl ?_
  refine q_icge rfl rfl (fun c74 => absurd c74 (by decide)) (fun c74 => ?_)
  refine q_lload_n rfl rfl rfl ?_
  refine q_iload_n rfl rfl rfl ?_
  refine q_aload_n rfl rfl rfl ?_
  refine q_getf rfl rfl (by decide) rfl rfl ?_
  refine q_getf rfl rfl (by decide) (FW_1 S hW) rfl ?_
  refine q_iload_n rfl rfl rfl ?_
  refine q_iald rfl rfl (by decide) (FW_2 S hW) (by decide) (q_tn (z := 0) rfl ?_)
  refine q_nS3 rfl rfl (Or.inl rfl) rfl rfl ⟨rfl, rfl⟩ rfl ?_
  change PQ _ _ _ mm_X0_withPlace 0 [.long 0, pm_un, .int 2, .int 0, pm_un] [] _ _ 0 0 _
  refine q_bipush rfl rfl ?_
  refine q_iconst rfl rfl ?_
  refine q_iload_n rfl rfl rfl ?_
  refine q_imul rfl rfl (q_tn (z := 8) rfl ?_)
  refine q_iadd rfl rfl (q_tn (z := 44) rfl ?_)
  refine q_ist4 rfl rfl rfl rfl ?_
  refine q_lload_n rfl rfl rfl ?_
  refine q_ldc2 rfl rfl ?_
  refine q_iload rfl rfl rfl ?_
  refine q_lshl rfl rfl (q_tnl (z := 263882790666240) rfl ?_)
  refine q_ldc2 rfl rfl ?_
  refine q_lxor rfl rfl (q_tnl (z := (-263882790666241)) rfl ?_)
  refine q_land rfl rfl (q_tnl (z := 0) rfl ?_)
  refine q_iload_n rfl rfl rfl ?_
  refine q_i2l rfl rfl (q_tnl (z := 0) rfl ?_)
  refine q_iload rfl rfl rfl ?_
  refine q_lshl rfl rfl (q_tnl (z := 0) rfl ?_)
  refine q_lor rfl rfl (q_tnl (z := 0) rfl ?_)
  refine q_lret rfl rfl trivial ?_
  refine ⟨_, rfl, ?_⟩
  refine q_lst1n rfl rfl rfl rfl ?_
  refine q_icc3 (z := 3) rfl rfl rfl rfl rfl ?_
  refine q_goto rfl ?_
  refine q_iload_n rfl rfl rfl ?_
  refine q_iconst rfl rfl ?_
  refine q_icge rfl rfl (fun c75 => absurd c75 (by decide)) (fun c75 => ?_)
  refine q_lload_n rfl rfl rfl ?_
  refine q_iload_n rfl rfl rfl ?_
  refine q_aload_n rfl rfl rfl ?_
  refine q_getf rfl rfl (by decide) rfl rfl ?_
  refine q_getf rfl rfl (by decide) (FW_1 S hW) rfl ?_
  refine q_iload_n rfl rfl rfl ?_
  refine q_iald rfl rfl (by decide) (FW_2 S hW) (by decide) (q_tn (z := 0) rfl ?_)
  refine q_nS3 rfl rfl (Or.inl rfl) rfl rfl ⟨rfl, rfl⟩ rfl ?_
  change PQ _ _ _ mm_X0_withPlace 0 [.long 0, pm_un, .int 3, .int 0, pm_un] [] _ _ 0 0 _
  refine q_bipush rfl rfl ?_
  refine q_iconst rfl rfl ?_
  refine q_iload_n rfl rfl rfl ?_
  refine q_imul rfl rfl (q_tn (z := 12) rfl ?_)
  refine q_iadd rfl rfl (q_tn (z := 48) rfl ?_)
  refine q_ist4 rfl rfl rfl rfl ?_
  refine q_lload_n rfl rfl rfl ?_
  refine q_ldc2 rfl rfl ?_
  refine q_iload rfl rfl rfl ?_
  refine q_lshl rfl rfl (q_tnl (z := 4222124650659840) rfl ?_)
  refine q_ldc2 rfl rfl ?_
  refine q_lxor rfl rfl (q_tnl (z := (-4222124650659841)) rfl ?_)
  refine q_land rfl rfl (q_tnl (z := 0) rfl ?_)
  refine q_iload_n rfl rfl rfl ?_
  refine q_i2l rfl rfl (q_tnl (z := 0) rfl ?_)
  refine q_iload rfl rfl rfl ?_
  refine q_lshl rfl rfl (q_tnl (z := 0) rfl ?_)
  refine q_lor rfl rfl (q_tnl (z := 0) rfl ?_)
  refine q_lret rfl rfl trivial ?_
  refine ⟨_, rfl, ?_⟩
  refine q_lst1n rfl rfl rfl rfl ?_
  refine q_icc3 (z := 4) rfl rfl rfl rfl rfl ?_
  refine q_goto rfl ?_
  refine q_iload_n rfl rfl rfl ?_
  refine q_iconst rfl rfl ?_
  refine q_icge rfl rfl (fun c76 => ?_) (fun c76 => absurd (by decide) c76)
  refine q_lload_n rfl rfl rfl ?_
  refine q_lret rfl rfl trivial ?_
  refine ⟨_, rfl, ?_⟩
  refine q_iconst rfl rfl ?_
  refine q_iconst rfl rfl ?_
  refine q_nV3 rfl rfl (Or.inl rfl) rfl rfl rfl (by decide) rfl ⟨rfl, rfl⟩ rfl ?_
  change PQ _ _ _ mm_X7_numberOf 0 [.ref 16, .long 0, pm_un, .int (-1), .int (-1), pm_un, pm_un, pm_un] [] _ _ 0 0 _
  refine q_lload_n rfl rfl rfl ?_
  refine q_ldc2 rfl rfl ?_
  refine q_lmul rfl rfl (q_tnl (z := 0) rfl ?_)
  refine q_bipush rfl rfl ?_
  refine q_lushr rfl rfl (q_tnl (z := 0) rfl ?_)
  refine q_l2i rfl rfl (q_tn (z := 0) rfl ?_)
  refine q_sipush rfl rfl ?_
  refine q_iand rfl rfl (q_tn (z := 0) rfl ?_)
  refine q_ist5 rfl rfl rfl rfl ?_
  refine q_iconst rfl rfl ?_
  refine q_ist6 rfl rfl rfl rfl ?_
  refine q_iload rfl rfl rfl ?_
  refine q_sipush rfl rfl ?_
  refine q_icge rfl rfl (fun c77 => absurd c77 (by decide)) (fun c77 => ?_)
  refine q_aload_n rfl rfl rfl ?_
  refine q_getf rfl rfl (by decide) rfl rfl ?_
  refine q_iload rfl rfl rfl ?_
  refine q_iald rfl rfl (by decide) (FW_22 S hW) (by decide) (q_tn (z := 0) rfl ?_)
  refine q_iconst rfl rfl ?_
  refine q_isub rfl rfl (q_tn (z := (-1)) rfl ?_)
  refine q_ist7 rfl rfl rfl rfl ?_
  refine q_iload rfl rfl rfl ?_
  refine q_ifge rfl rfl (fun c78 => absurd c78 (by decide)) (fun c78 => ?_)
  refine q_aload_n rfl rfl rfl ?_
  refine q_lload_n rfl rfl rfl ?_
  refine q_iload rfl rfl rfl ?_
  refine q_iload_n rfl rfl rfl ?_
  refine q_iload rfl rfl rfl ?_
  refine q_nV4 rfl rfl (Or.inl rfl) rfl rfl rfl (by decide) rfl ⟨rfl, rfl⟩ rfl ?_
  change PQ _ _ _ mm_X7_newNumber 0 [.ref 16, .long 0, pm_un, .int 0, .int (-1), .int (-1), pm_un] [] _ _ 0 0 _
  refine q_aload_n rfl rfl rfl ?_
  refine q_getf rfl rfl (by decide) rfl rfl ?_
  refine q_sipush rfl rfl ?_
  refine q_iclt rfl rfl (fun c79 => ?_) (fun c79 => absurd (by decide) c79)
  refine q_aload_n rfl rfl rfl ?_
  refine q_dupr rfl rfl ?_
  refine q_getf rfl rfl (by decide) rfl rfl ?_
  refine q_dupx1 rfl rfl ?_
  refine q_iconst rfl rfl ?_
  refine q_iadd rfl rfl (q_tn (z := 1) rfl ?_)
  refine q_putf rfl rfl (by decide) rfl (by decide) rfl trivial ?_
  refine q_ist6 rfl rfl rfl rfl ?_
  refine q_aload_n rfl rfl rfl ?_
  refine q_getf rfl rfl (by decide) rfl rfl ?_
  refine q_iload rfl rfl rfl ?_
  refine q_lload_n rfl rfl rfl ?_
  refine q_last rfl rfl (by decide) (FW_17 S hW) (by decide) ?_
  refine q_aload_n rfl rfl rfl ?_
  refine q_getf rfl rfl (by decide) rfl rfl ?_
  refine q_iload rfl rfl rfl ?_
  refine q_iload rfl rfl rfl ?_
  refine q_iast rfl rfl (by decide) (FW_18 S hW) (by decide) ?_
  refine q_aload_n rfl rfl rfl ?_
  refine q_getf rfl rfl (by decide) rfl rfl ?_
  refine q_iload rfl rfl rfl ?_
  refine q_iload rfl rfl rfl ?_
  refine q_iast rfl rfl (by decide) (FW_19 S hW) (by decide) ?_
  refine q_aload_n rfl rfl rfl ?_
  refine q_getf rfl rfl (by decide) rfl rfl ?_
  refine q_iload rfl rfl rfl ?_
  refine q_iload_n rfl rfl rfl ?_
  refine q_iast rfl rfl (by decide) (FW_23 S hW) (by decide) ?_
  refine q_aload_n rfl rfl rfl ?_
  refine q_getf rfl rfl (by decide) rfl rfl ?_
  refine q_iload_n rfl rfl rfl ?_
  refine q_iload rfl rfl rfl ?_
  refine q_iconst rfl rfl ?_
  refine q_iadd rfl rfl (q_tn (z := 1) rfl ?_)
  refine q_iast rfl rfl (by decide) (FW_22 S hW) (by decide) ?_
  refine q_iload rfl rfl rfl ?_
  refine q_iret rfl rfl trivial ?_
  refine ⟨_, rfl, ?_⟩
  refine q_iret rfl rfl trivial ?_
  refine ⟨_, rfl, ?_⟩
  refine q_pop rfl rfl ?_
  refine q_iconst rfl rfl ?_
  refine q_ist3n rfl rfl rfl rfl ?_
  refine q_iload_n rfl rfl rfl ?_
  refine q_sipush rfl rfl ?_
  refine q_icge rfl rfl (fun c80 => absurd c80 (by decide)) (fun c80 => ?_)
  refine q_iload_n rfl rfl rfl ?_
  refine q_aload_n rfl rfl rfl ?_
  refine q_getf rfl rfl (by decide) rfl rfl ?_
  refine q_icge rfl rfl (fun c81 => absurd c81 (by decide)) (fun c81 => ?_)
  refine q_aload_n rfl rfl rfl ?_
  refine q_aload_n rfl rfl rfl ?_
  refine q_iload_n rfl rfl rfl ?_
  refine q_nV2v rfl rfl (Or.inl rfl) rfl rfl rfl (by decide) rfl ⟨rfl, rfl⟩ rfl ?_
  change PQ _ _ _ mm_X7_lookAt 0 [.ref 16, .ref 7, .int 0, pm_un, pm_un, pm_un, pm_un, pm_un, pm_un, pm_un] [] _ _ 0 0 _
  refine q_aload_n rfl rfl rfl ?_
  refine q_getf rfl rfl (by decide) rfl rfl ?_
  refine q_iload_n rfl rfl rfl ?_
  refine q_lald rfl rfl (by decide) rfl (by decide) (q_tnl (z := 0) rfl ?_)
  refine q_lst3n rfl rfl rfl rfl ?_
  refine q_aload_n rfl rfl rfl ?_
  refine q_aload_n rfl rfl rfl ?_
  refine q_lload_n rfl rfl rfl ?_
  refine q_nV1 rfl rfl (Or.inl rfl) rfl rfl rfl (by decide) rfl ⟨rfl, rfl⟩ rfl ?_
  change PQ _ _ _ mm_X6_ableHands 0 [.ref 7, .long 0, pm_un, pm_un, pm_un, pm_un] [] _ _ 0 0 _
  refine q_aload_n rfl rfl rfl ?_
  refine q_lload_n rfl rfl rfl ?_
  refine q_nV1 rfl rfl (Or.inl rfl) rfl rfl rfl (by decide) rfl ⟨rfl, rfl⟩ rfl ?_
  change PQ _ _ _ mm_X6_allMeet 0 [.ref 7, .long 0, pm_un, pm_un, pm_un] [] _ _ 0 0 _
  refine q_iconst rfl rfl ?_
  refine q_ist3n rfl rfl rfl rfl ?_
  refine q_iload_n rfl rfl rfl ?_
  refine q_aload_n rfl rfl rfl ?_
  refine q_getf rfl rfl (by decide) rfl rfl ?_
  refine q_getf rfl rfl (by decide) (FW_1 S hW) rfl ?_
  refine q_icge rfl rfl (fun c82 => absurd c82 (by decide)) (fun c82 => ?_)
  refine q_aload_n rfl rfl rfl ?_
  refine q_getf rfl rfl (by decide) rfl rfl ?_
  refine q_iload_n rfl rfl rfl ?_
  refine q_lload_n rfl rfl rfl ?_
  refine q_iload_n rfl rfl rfl ?_
  refine q_nS2 rfl rfl (Or.inl rfl) rfl rfl ⟨rfl, rfl⟩ rfl ?_
  change PQ _ _ _ mm_X0_position 0 [.long 0, pm_un, .int 0] [] _ _ 0 0 _
  refine q_lload_n rfl rfl rfl ?_
  refine q_bipush rfl rfl ?_
  refine q_iload_n rfl rfl rfl ?_
  refine q_imul rfl rfl (q_tn (z := 0) rfl ?_)
  refine q_lushr rfl rfl (q_tnl (z := 0) rfl ?_)
  refine q_l2i rfl rfl (q_tn (z := 0) rfl ?_)
  refine q_bipush rfl rfl ?_
  as_aux_lemma =>
    refine q_iand rfl rfl (q_tn (z := 0) rfl ?_)
    refine q_iret rfl rfl trivial ?_
    refine ⟨_, rfl, ?_⟩
    refine q_nV2 rfl rfl (Or.inl rfl) rfl rfl rfl (by decide) (FW_1 S hW) ⟨rfl, rfl⟩ rfl ?_
    change PQ _ _ _ mm_X8_cellOf 0 [.ref 1, .int 0, .int 0, pm_un] [] _ _ 0 0 _
    refine q_iload_n rfl rfl rfl ?_
    refine q_iflt rfl rfl (fun c83 => absurd c83 (by decide)) (fun c83 => ?_)
    refine q_iload_n rfl rfl rfl ?_
    refine q_aload_n rfl rfl rfl ?_
    refine q_getf rfl rfl (by decide) (FW_1 S hW) rfl ?_
    refine q_icge rfl rfl (fun c84 => absurd c84 (by decide)) (fun c84 => ?_)
    refine q_iload_n rfl rfl rfl ?_
    refine q_iflt rfl rfl (fun c85 => absurd c85 (by decide)) (fun c85 => ?_)
    refine q_iload_n rfl rfl rfl ?_
    refine q_aload_n rfl rfl rfl ?_
    refine q_getf rfl rfl (by decide) (FW_1 S hW) rfl ?_
    refine q_iload_n rfl rfl rfl ?_
    refine q_iald rfl rfl (by decide) (FW_3 S hW) (by decide) (q_tn (z := 0) rfl ?_)
    refine q_icge rfl rfl (fun c86 => ?_) (fun c86 => absurd (by decide) c86)
    refine q_iconst rfl rfl ?_
    refine q_ist3n rfl rfl rfl rfl ?_
    refine q_iload_n rfl rfl rfl ?_
    refine q_ifeq rfl rfl (fun c87 => ?_) (fun c87 => absurd (by decide) c87)
    refine q_iconst rfl rfl ?_
    refine q_iret rfl rfl trivial ?_
    refine ⟨_, rfl, ?_⟩
    refine q_ist4 rfl rfl rfl rfl ?_
    refine q_iload rfl rfl rfl ?_
    refine q_iflt rfl rfl (fun c88 => ?_) (fun c88 => absurd (by decide) c88)
    refine q_icc3 (z := 1) rfl rfl rfl rfl rfl ?_
    refine q_goto rfl ?_
    refine q_iload_n rfl rfl rfl ?_
    refine q_aload_n rfl rfl rfl ?_
    refine q_getf rfl rfl (by decide) rfl rfl ?_
    refine q_getf rfl rfl (by decide) (FW_1 S hW) rfl ?_
    refine q_icge rfl rfl (fun c89 => ?_) (fun c89 => absurd (by decide) c89)
    refine q_iconst rfl rfl ?_
    refine q_iret rfl rfl rfl ?_
    refine ⟨_, rfl, ?_⟩
    refine q_ist3n rfl rfl rfl rfl ?_
    refine q_iconst rfl rfl ?_
    refine q_ist4 rfl rfl rfl rfl ?_
    refine q_iconst rfl rfl ?_
    refine q_ist5 rfl rfl rfl rfl ?_
    refine q_iload rfl rfl rfl ?_
    refine q_aload_n rfl rfl rfl ?_
    refine q_getf rfl rfl (by decide) rfl rfl ?_
    refine q_getf rfl rfl (by decide) (FW_1 S hW) rfl ?_
    refine q_icge rfl rfl (fun c90 => absurd c90 (by decide)) (fun c90 => ?_)
    refine q_aload_n rfl rfl rfl ?_
    refine q_lload_n rfl rfl rfl ?_
    refine q_iload rfl rfl rfl ?_
    refine q_iload_n rfl rfl rfl ?_
    refine q_nV3 rfl rfl (Or.inl rfl) rfl rfl rfl (by decide) rfl ⟨rfl, rfl⟩ rfl ?_
    change PQ _ _ _ mm_X6_isAble 0 [.ref 7, .long 0, pm_un, .int 0, .int 1, pm_un, pm_un, pm_un] [] _ _ 0 0 _
    refine q_aload_n rfl rfl rfl ?_
    refine q_getf rfl rfl (by decide) rfl rfl ?_
    refine q_iload_n rfl rfl rfl ?_
    refine q_lload_n rfl rfl rfl ?_
    refine q_iload_n rfl rfl rfl ?_
    refine q_nS2 rfl rfl (Or.inl rfl) rfl rfl ⟨rfl, rfl⟩ rfl ?_
    change PQ _ _ _ mm_X0_position 0 [.long 0, pm_un, .int 0] [] _ _ 0 0 _
    refine q_lload_n rfl rfl rfl ?_
    refine q_bipush rfl rfl ?_
    refine q_iload_n rfl rfl rfl ?_
    refine q_imul rfl rfl (q_tn (z := 0) rfl ?_)
    refine q_lushr rfl rfl (q_tnl (z := 0) rfl ?_)
    refine q_l2i rfl rfl (q_tn (z := 0) rfl ?_)
    refine q_bipush rfl rfl ?_
    refine q_iand rfl rfl (q_tn (z := 0) rfl ?_)
    refine q_iret rfl rfl trivial ?_
    refine ⟨_, rfl, ?_⟩
    refine q_nV2 rfl rfl (Or.inl rfl) rfl rfl rfl (by decide) (FW_1 S hW) ⟨rfl, rfl⟩ rfl ?_
    change PQ _ _ _ mm_X8_cellOf 0 [.ref 1, .int 0, .int 0, pm_un] [] _ _ 0 0 _
    refine q_iload_n rfl rfl rfl ?_
    refine q_iflt rfl rfl (fun c91 => absurd c91 (by decide)) (fun c91 => ?_)
    refine q_iload_n rfl rfl rfl ?_
    refine q_aload_n rfl rfl rfl ?_
    refine q_getf rfl rfl (by decide) (FW_1 S hW) rfl ?_
    refine q_icge rfl rfl (fun c92 => absurd c92 (by decide)) (fun c92 => ?_)
    refine q_iload_n rfl rfl rfl ?_
    refine q_iflt rfl rfl (fun c93 => absurd c93 (by decide)) (fun c93 => ?_)
    refine q_iload_n rfl rfl rfl ?_
    refine q_aload_n rfl rfl rfl ?_
    refine q_getf rfl rfl (by decide) (FW_1 S hW) rfl ?_
    refine q_iload_n rfl rfl rfl ?_
    refine q_iald rfl rfl (by decide) (FW_3 S hW) (by decide) (q_tn (z := 0) rfl ?_)
    refine q_icge rfl rfl (fun c94 => ?_) (fun c94 => absurd (by decide) c94)
    refine q_iconst rfl rfl ?_
    refine q_ist3n rfl rfl rfl rfl ?_
    refine q_iload_n rfl rfl rfl ?_
    refine q_ifeq rfl rfl (fun c95 => ?_) (fun c95 => absurd (by decide) c95)
    refine q_iconst rfl rfl ?_
    refine q_iret rfl rfl trivial ?_
    refine ⟨_, rfl, ?_⟩
    refine q_ist5 rfl rfl rfl rfl ?_
    refine q_iload rfl rfl rfl ?_
    refine q_ifge rfl rfl (fun c96 => absurd c96 (by decide)) (fun c96 => ?_)
    refine q_iconst rfl rfl ?_
    refine q_iret rfl rfl rfl ?_
    refine ⟨_, rfl, ?_⟩
    refine q_ifeq rfl rfl (fun c97 => ?_) (fun c97 => absurd (by decide) c97)
    refine q_icc5 (z := 1) rfl rfl rfl rfl rfl ?_
    refine q_goto rfl ?_
    refine q_iload rfl rfl rfl ?_
    refine q_aload_n rfl rfl rfl ?_
    refine q_getf rfl rfl (by decide) rfl rfl ?_
    refine q_getf rfl rfl (by decide) (FW_1 S hW) rfl ?_
    refine q_icge rfl rfl (fun c98 => ?_) (fun c98 => absurd (by decide) c98)
    refine q_iload rfl rfl rfl ?_
    refine q_iret rfl rfl trivial ?_
    refine ⟨_, rfl, ?_⟩
    refine q_lload_n rfl rfl rfl ?_
    refine q_nS1 rfl rfl (Or.inl rfl) rfl rfl ⟨rfl, rfl⟩ rfl ?_
    change PQ _ _ _ mm_X0_last 0 [.long 0, pm_un] [] _ _ 0 0 _
    refine q_lload_n rfl rfl rfl ?_
    refine q_bipush rfl rfl ?_
    refine q_lushr rfl rfl (q_tnl (z := 0) rfl ?_)
    refine q_l2i rfl rfl (q_tn (z := 0) rfl ?_)
    refine q_iconst rfl rfl ?_
    refine q_iand rfl rfl (q_tn (z := 0) rfl ?_)
    refine q_iconst rfl rfl ?_
    refine q_isub rfl rfl (q_tn (z := (-1)) rfl ?_)
    refine q_iret rfl rfl trivial ?_
    refine ⟨_, rfl, ?_⟩
    refine q_nV2 rfl rfl (Or.inl rfl) rfl rfl rfl (by decide) rfl ⟨rfl, rfl⟩ rfl ?_
    change PQ _ _ _ mm_X6_chosenHands 0 [.ref 7, .int 0, .int (-1), pm_un, pm_un] [] _ _ 0 0 _
    refine q_aload_n rfl rfl rfl ?_
    refine q_getf rfl rfl (by decide) rfl rfl ?_
    refine q_iconst rfl rfl ?_
    refine q_icne rfl rfl (fun c99 => ?_) (fun c99 => absurd (by decide) c99)
    refine q_iload_n rfl rfl rfl ?_
    refine q_iflt rfl rfl (fun c100 => ?_) (fun c100 => absurd (by decide) c100)
    refine q_aload_n rfl rfl rfl ?_
    refine q_getf rfl rfl (by decide) rfl rfl ?_
    refine q_iconst rfl rfl ?_
    refine q_iceq rfl rfl (fun c101 => absurd c101 (by decide)) (fun c101 => ?_)
    refine q_iload_n rfl rfl rfl ?_
    refine q_iret rfl rfl trivial ?_
    refine ⟨_, rfl, ?_⟩
    refine q_ist5 rfl rfl rfl rfl ?_
    refine q_iconst rfl rfl ?_
    refine q_ist6 rfl rfl rfl rfl ?_
    refine q_iload rfl rfl rfl ?_
    refine q_iconst rfl rfl ?_
    refine q_icge rfl rfl (fun c102 => absurd c102 (by decide)) (fun c102 => ?_)
    refine q_iconst rfl rfl ?_
    refine q_ist7 rfl rfl rfl rfl ?_
    refine q_iload rfl rfl rfl ?_
    refine q_iload rfl rfl rfl ?_
    refine q_iushr rfl rfl (q_tn (z := 0) rfl ?_)
    refine q_iconst rfl rfl ?_
    refine q_iand rfl rfl (q_tn (z := 0) rfl ?_)
    refine q_ifeq rfl rfl (fun c103 => ?_) (fun c103 => absurd (by decide) c103)
    refine q_aload_n rfl rfl rfl ?_
    refine q_getf rfl rfl (by decide) rfl rfl ?_
    refine q_iload_n rfl rfl rfl ?_
    refine q_iconst rfl rfl ?_
    refine q_imul rfl rfl (q_tn (z := 0) rfl ?_)
    refine q_iload rfl rfl rfl ?_
    refine q_iadd rfl rfl (q_tn (z := 0) rfl ?_)
    refine q_iload rfl rfl rfl ?_
    refine q_iast rfl rfl (by decide) (FW_21 S hW) (by decide) ?_
    refine q_icc6 (z := 1) rfl rfl rfl rfl rfl ?_
    refine q_goto rfl ?_
    refine q_iload rfl rfl rfl ?_
    refine q_iconst rfl rfl ?_
    refine q_icge rfl rfl (fun c104 => absurd c104 (by decide)) (fun c104 => ?_)
    refine q_iconst rfl rfl ?_
    refine q_ist7 rfl rfl rfl rfl ?_
    refine q_iload rfl rfl rfl ?_
    refine q_iload rfl rfl rfl ?_
    refine q_iushr rfl rfl (q_tn (z := 0) rfl ?_)
    refine q_iconst rfl rfl ?_
    refine q_iand rfl rfl (q_tn (z := 0) rfl ?_)
    refine q_ifeq rfl rfl (fun c105 => ?_) (fun c105 => absurd (by decide) c105)
    refine q_aload_n rfl rfl rfl ?_
    refine q_getf rfl rfl (by decide) rfl rfl ?_
    refine q_iload_n rfl rfl rfl ?_
    refine q_iconst rfl rfl ?_
    refine q_imul rfl rfl (q_tn (z := 0) rfl ?_)
    refine q_iload rfl rfl rfl ?_
    refine q_iadd rfl rfl (q_tn (z := 1) rfl ?_)
    refine q_iload rfl rfl rfl ?_
    refine q_iast rfl rfl (by decide) rfl (by decide) ?_
    refine q_icc6 (z := 2) rfl rfl rfl rfl rfl ?_
    refine q_goto rfl ?_
    refine q_iload rfl rfl rfl ?_
    refine q_iconst rfl rfl ?_
    refine q_icge rfl rfl (fun c106 => absurd c106 (by decide)) (fun c106 => ?_)
    refine q_iconst rfl rfl ?_
    refine q_ist7 rfl rfl rfl rfl ?_
    refine q_iload rfl rfl rfl ?_
    refine q_iload rfl rfl rfl ?_
    refine q_iushr rfl rfl (q_tn (z := 0) rfl ?_)
    refine q_iconst rfl rfl ?_
    refine q_iand rfl rfl (q_tn (z := 0) rfl ?_)
    refine q_ifeq rfl rfl (fun c107 => ?_) (fun c107 => absurd (by decide) c107)
    refine q_aload_n rfl rfl rfl ?_
    refine q_getf rfl rfl (by decide) rfl rfl ?_
    refine q_iload_n rfl rfl rfl ?_
    refine q_iconst rfl rfl ?_
    refine q_imul rfl rfl (q_tn (z := 0) rfl ?_)
    refine q_iload rfl rfl rfl ?_
    refine q_iadd rfl rfl (q_tn (z := 2) rfl ?_)
    refine q_iload rfl rfl rfl ?_
    refine q_iast rfl rfl (by decide) rfl (by decide) ?_
    refine q_icc6 (z := 3) rfl rfl rfl rfl rfl ?_
    refine q_goto rfl ?_
    refine q_iload rfl rfl rfl ?_
    refine q_iconst rfl rfl ?_
    refine q_icge rfl rfl (fun c108 => ?_) (fun c108 => absurd (by decide) c108)
    refine q_aload_n rfl rfl rfl ?_
    refine q_getf rfl rfl (by decide) rfl rfl ?_
    refine q_iload_n rfl rfl rfl ?_
    refine q_iload rfl rfl rfl ?_
    refine q_ifeq rfl rfl (fun c109 => ?_) (fun c109 => absurd (by decide) c109)
    refine q_aload_n rfl rfl rfl ?_
    refine q_lload_n rfl rfl rfl ?_
    refine q_nV1 rfl rfl (Or.inl rfl) rfl rfl rfl (by decide) rfl ⟨rfl, rfl⟩ rfl ?_
    change PQ _ _ _ mm_X6_isEnd 0 [.ref 7, .long 0, pm_un, pm_un] [] _ _ 0 0 _
    refine q_iconst rfl rfl ?_
    refine q_ist3n rfl rfl rfl rfl ?_
    refine q_iload_n rfl rfl rfl ?_
    refine q_aload_n rfl rfl rfl ?_
    refine q_getf rfl rfl (by decide) rfl rfl ?_
    refine q_getf rfl rfl (by decide) (FW_1 S hW) rfl ?_
    refine q_icge rfl rfl (fun c110 => absurd c110 (by decide)) (fun c110 => ?_)
    refine q_aload_n rfl rfl rfl ?_
    refine q_getf rfl rfl (by decide) rfl rfl ?_
    refine q_iload_n rfl rfl rfl ?_
    refine q_lload_n rfl rfl rfl ?_
    refine q_iload_n rfl rfl rfl ?_
    refine q_nS2 rfl rfl (Or.inl rfl) rfl rfl ⟨rfl, rfl⟩ rfl ?_
    change PQ _ _ _ mm_X0_position 0 [.long 0, pm_un, .int 0] [] _ _ 0 0 _
    refine q_lload_n rfl rfl rfl ?_
    refine q_bipush rfl rfl ?_
    refine q_iload_n rfl rfl rfl ?_
    refine q_imul rfl rfl (q_tn (z := 0) rfl ?_)
    refine q_lushr rfl rfl (q_tnl (z := 0) rfl ?_)
    refine q_l2i rfl rfl (q_tn (z := 0) rfl ?_)
    refine q_bipush rfl rfl ?_
    refine q_iand rfl rfl (q_tn (z := 0) rfl ?_)
    refine q_iret rfl rfl trivial ?_
    refine ⟨_, rfl, ?_⟩
    refine q_nV2 rfl rfl (Or.inl rfl) rfl rfl rfl (by decide) (FW_1 S hW) ⟨rfl, rfl⟩ rfl ?_
    change PQ _ _ _ mm_X8_cellOf 0 [.ref 1, .int 0, .int 0, pm_un] [] _ _ 0 0 _
    refine q_iload_n rfl rfl rfl ?_
    refine q_iflt rfl rfl (fun c111 => absurd c111 (by decide)) (fun c111 => ?_)
    refine q_iload_n rfl rfl rfl ?_
    refine q_aload_n rfl rfl rfl ?_
    refine q_getf rfl rfl (by decide) (FW_1 S hW) rfl ?_
    refine q_icge rfl rfl (fun c112 => absurd c112 (by decide)) (fun c112 => ?_)
    refine q_iload_n rfl rfl rfl ?_
    refine q_iflt rfl rfl (fun c113 => absurd c113 (by decide)) (fun c113 => ?_)
    refine q_iload_n rfl rfl rfl ?_
    refine q_aload_n rfl rfl rfl ?_
    refine q_getf rfl rfl (by decide) (FW_1 S hW) rfl ?_
    refine q_iload_n rfl rfl rfl ?_
    refine q_iald rfl rfl (by decide) (FW_3 S hW) (by decide) (q_tn (z := 0) rfl ?_)
    refine q_icge rfl rfl (fun c114 => ?_) (fun c114 => absurd (by decide) c114)
    refine q_iconst rfl rfl ?_
    refine q_ist3n rfl rfl rfl rfl ?_
    refine q_iload_n rfl rfl rfl ?_
    refine q_ifeq rfl rfl (fun c115 => ?_) (fun c115 => absurd (by decide) c115)
    refine q_iconst rfl rfl ?_
    refine q_iret rfl rfl trivial ?_
    refine ⟨_, rfl, ?_⟩
    refine q_iflt rfl rfl (fun c116 => ?_) (fun c116 => absurd (by decide) c116)
    refine q_icc3 (z := 1) rfl rfl rfl rfl rfl ?_
    refine q_goto rfl ?_
    refine q_iload_n rfl rfl rfl ?_
    refine q_aload_n rfl rfl rfl ?_
    refine q_getf rfl rfl (by decide) rfl rfl ?_
    refine q_getf rfl rfl (by decide) (FW_1 S hW) rfl ?_
    refine q_icge rfl rfl (fun c117 => ?_) (fun c117 => absurd (by decide) c117)
    refine q_iconst rfl rfl ?_
    refine q_iret rfl rfl rfl ?_
    refine ⟨_, rfl, ?_⟩
    refine q_ifeq rfl rfl (fun c118 => absurd c118 (by decide)) (fun c118 => ?_)
    refine q_iconst rfl rfl ?_
    refine q_goto rfl ?_
    refine q_iast rfl rfl (by decide) (FW_20 S hW) (by decide) ?_
    refine q_aload_n rfl rfl rfl ?_
    refine q_dupr rfl rfl ?_
    refine q_getf rfl rfl (by decide) rfl rfl ?_
    refine q_aload_n rfl rfl rfl ?_
    refine q_getf rfl rfl (by decide) rfl rfl ?_
    refine q_iload_n rfl rfl rfl ?_
    refine q_iald rfl rfl (by decide) rfl (by decide) (q_tn (z := 1) rfl ?_)
    refine q_iconst rfl rfl ?_
    refine q_iceq rfl rfl (fun c119 => absurd c119 (by decide)) (fun c119 => ?_)
    refine q_aload_n rfl rfl rfl ?_
    refine q_lload_n rfl rfl rfl ?_
    refine q_nV1 rfl rfl (Or.inl rfl) rfl rfl rfl (by decide) rfl ⟨rfl, rfl⟩ rfl ?_
    change PQ _ _ _ mm_X6_someFailed 0 [.ref 7, .long 0, pm_un, pm_un] [] _ _ 0 0 _
    refine q_iconst rfl rfl ?_
    refine q_ist3n rfl rfl rfl rfl ?_
    refine q_iload_n rfl rfl rfl ?_
    refine q_aload_n rfl rfl rfl ?_
    refine q_getf rfl rfl (by decide) rfl rfl ?_
    refine q_getf rfl rfl (by decide) (FW_1 S hW) rfl ?_
    refine q_icge rfl rfl (fun c120 => absurd c120 (by decide)) (fun c120 => ?_)
    refine q_lload_n rfl rfl rfl ?_
    refine q_iload_n rfl rfl rfl ?_
    refine q_nS2 rfl rfl (Or.inl rfl) rfl rfl ⟨rfl, rfl⟩ rfl ?_
    change PQ _ _ _ mm_X0_position 0 [.long 0, pm_un, .int 0] [] _ _ 0 0 _
    refine q_lload_n rfl rfl rfl ?_
    refine q_bipush rfl rfl ?_
    refine q_iload_n rfl rfl rfl ?_
    refine q_imul rfl rfl (q_tn (z := 0) rfl ?_)
    refine q_lushr rfl rfl (q_tnl (z := 0) rfl ?_)
    refine q_l2i rfl rfl (q_tn (z := 0) rfl ?_)
    refine q_bipush rfl rfl ?_
    refine q_iand rfl rfl (q_tn (z := 0) rfl ?_)
    refine q_iret rfl rfl trivial ?_
    refine ⟨_, rfl, ?_⟩
    refine q_bipush rfl rfl ?_
    refine q_icne rfl rfl (fun c121 => absurd c121 (by decide)) (fun c121 => ?_)
    refine q_icc3 (z := 1) rfl rfl rfl rfl rfl ?_
    refine q_goto rfl ?_
    refine q_iload_n rfl rfl rfl ?_
    refine q_aload_n rfl rfl rfl ?_
    refine q_getf rfl rfl (by decide) rfl rfl ?_
    refine q_getf rfl rfl (by decide) (FW_1 S hW) rfl ?_
    refine q_icge rfl rfl (fun c122 => ?_) (fun c122 => absurd (by decide) c122)
    refine q_iconst rfl rfl ?_
    refine q_iret rfl rfl rfl ?_
    refine ⟨_, rfl, ?_⟩
    refine q_ifeq rfl rfl (fun c123 => ?_) (fun c123 => absurd (by decide) c123)
    refine q_iconst rfl rfl ?_
    refine q_ior rfl rfl (q_tn (z := 0) rfl ?_)
    refine q_putf rfl rfl (by decide) rfl (by decide) rfl rfl ?_
    refine q_aload_n rfl rfl rfl ?_
    refine q_getf rfl rfl (by decide) rfl rfl ?_
    refine q_iload_n rfl rfl rfl ?_
    refine q_iald rfl rfl (by decide) rfl (by decide) (q_tn (z := 1) rfl ?_)
    refine q_iconst rfl rfl ?_
    refine q_icne rfl rfl (fun c124 => ?_) (fun c124 => absurd (by decide) c124)
    refine q_aload_n rfl rfl rfl ?_
    refine q_lload_n rfl rfl rfl ?_
    refine q_nV1v rfl rfl (Or.inl rfl) rfl rfl rfl (by decide) rfl ⟨rfl, rfl⟩ rfl ?_
    change PQ _ _ _ mm_X7_noteEnd 0 [.ref 16, .long 0, pm_un, pm_un] [] _ _ 0 0 _
    refine q_iconst rfl rfl ?_
    refine q_ist3n rfl rfl rfl rfl ?_
    refine q_iload_n rfl rfl rfl ?_
    refine q_iconst rfl rfl ?_
    refine q_icge rfl rfl (fun c125 => absurd c125 (by decide)) (fun c125 => ?_)
    refine q_aload_n rfl rfl rfl ?_
    refine q_dupr rfl rfl ?_
    refine q_getf rfl rfl (by decide) rfl rfl ?_
    refine q_lconst rfl rfl ?_
    refine q_bipush rfl rfl ?_
    refine q_iload_n rfl rfl rfl ?_
    refine q_imul rfl rfl (q_tn (z := 0) rfl ?_)
    refine q_lload_n rfl rfl rfl ?_
    refine q_iload_n rfl rfl rfl ?_
    refine q_nS2 rfl rfl (Or.inl rfl) rfl rfl ⟨rfl, rfl⟩ rfl ?_
    change PQ _ _ _ mm_X0_place 0 [.long 0, pm_un, .int 0] [] _ _ 0 0 _
    refine q_lload_n rfl rfl rfl ?_
    refine q_bipush rfl rfl ?_
    refine q_iconst rfl rfl ?_
    refine q_iload_n rfl rfl rfl ?_
    refine q_imul rfl rfl (q_tn (z := 0) rfl ?_)
    refine q_iadd rfl rfl (q_tn (z := 36) rfl ?_)
    refine q_lushr rfl rfl (q_tnl (z := 0) rfl ?_)
    refine q_l2i rfl rfl (q_tn (z := 0) rfl ?_)
    refine q_bipush rfl rfl ?_
    refine q_iand rfl rfl (q_tn (z := 0) rfl ?_)
    refine q_iret rfl rfl trivial ?_
    refine ⟨_, rfl, ?_⟩
    refine q_iadd rfl rfl (q_tn (z := 0) rfl ?_)
    refine q_lshl rfl rfl (q_tnl (z := 1) rfl ?_)
    refine q_lor rfl rfl (q_tnl (z := 1) rfl ?_)
    refine q_putf rfl rfl (by decide) rfl (by decide) rfl trivial ?_
    refine q_icc3 (z := 1) rfl rfl rfl rfl rfl ?_
    refine q_goto rfl ?_
    refine q_iload_n rfl rfl rfl ?_
    refine q_iconst rfl rfl ?_
    refine q_icge rfl rfl (fun c126 => absurd c126 (by decide)) (fun c126 => ?_)
    refine q_aload_n rfl rfl rfl ?_
    refine q_dupr rfl rfl ?_
    refine q_getf rfl rfl (by decide) rfl rfl ?_
    refine q_lconst rfl rfl ?_
    refine q_bipush rfl rfl ?_
    refine q_iload_n rfl rfl rfl ?_
    refine q_imul rfl rfl (q_tn (z := 10) rfl ?_)
    refine q_lload_n rfl rfl rfl ?_
    refine q_iload_n rfl rfl rfl ?_
    refine q_nS2 rfl rfl (Or.inl rfl) rfl rfl ⟨rfl, rfl⟩ rfl ?_
    change PQ _ _ _ mm_X0_place 0 [.long 0, pm_un, .int 1] [] _ _ 0 0 _
    refine q_lload_n rfl rfl rfl ?_
    refine q_bipush rfl rfl ?_
    refine q_iconst rfl rfl ?_
    refine q_iload_n rfl rfl rfl ?_
    refine q_imul rfl rfl (q_tn (z := 4) rfl ?_)
    refine q_iadd rfl rfl (q_tn (z := 40) rfl ?_)
    refine q_lushr rfl rfl (q_tnl (z := 0) rfl ?_)
    refine q_l2i rfl rfl (q_tn (z := 0) rfl ?_)
    refine q_bipush rfl rfl ?_
    refine q_iand rfl rfl (q_tn (z := 0) rfl ?_)
    refine q_iret rfl rfl trivial ?_
    refine ⟨_, rfl, ?_⟩
    refine q_iadd rfl rfl (q_tn (z := 10) rfl ?_)
    refine q_lshl rfl rfl (q_tnl (z := 1024) rfl ?_)
    refine q_lor rfl rfl (q_tnl (z := 1025) rfl ?_)
    refine q_putf rfl rfl (by decide) rfl (by decide) rfl trivial ?_
    refine q_icc3 (z := 2) rfl rfl rfl rfl rfl ?_
    refine q_goto rfl ?_
    refine q_iload_n rfl rfl rfl ?_
    refine q_iconst rfl rfl ?_
    refine q_icge rfl rfl (fun c127 => absurd c127 (by decide)) (fun c127 => ?_)
    refine q_aload_n rfl rfl rfl ?_
    refine q_dupr rfl rfl ?_
    refine q_getf rfl rfl (by decide) rfl rfl ?_
    refine q_lconst rfl rfl ?_
    refine q_bipush rfl rfl ?_
    refine q_iload_n rfl rfl rfl ?_
    refine q_imul rfl rfl (q_tn (z := 20) rfl ?_)
    refine q_lload_n rfl rfl rfl ?_
    refine q_iload_n rfl rfl rfl ?_
    refine q_nS2 rfl rfl (Or.inl rfl) rfl rfl ⟨rfl, rfl⟩ rfl ?_
    change PQ _ _ _ mm_X0_place 0 [.long 0, pm_un, .int 2] [] _ _ 0 0 _
    refine q_lload_n rfl rfl rfl ?_
    refine q_bipush rfl rfl ?_
    refine q_iconst rfl rfl ?_
    refine q_iload_n rfl rfl rfl ?_
    refine q_imul rfl rfl (q_tn (z := 8) rfl ?_)
    refine q_iadd rfl rfl (q_tn (z := 44) rfl ?_)
    refine q_lushr rfl rfl (q_tnl (z := 0) rfl ?_)
    refine q_l2i rfl rfl (q_tn (z := 0) rfl ?_)
    refine q_bipush rfl rfl ?_
    refine q_iand rfl rfl (q_tn (z := 0) rfl ?_)
    refine q_iret rfl rfl trivial ?_
    refine ⟨_, rfl, ?_⟩
    refine q_iadd rfl rfl (q_tn (z := 20) rfl ?_)
    refine q_lshl rfl rfl (q_tnl (z := 1048576) rfl ?_)
    refine q_lor rfl rfl (q_tnl (z := 1049601) rfl ?_)
    refine q_putf rfl rfl (by decide) rfl (by decide) rfl trivial ?_
    refine q_icc3 (z := 3) rfl rfl rfl rfl rfl ?_
    refine q_goto rfl ?_
    refine q_iload_n rfl rfl rfl ?_
    refine q_iconst rfl rfl ?_
    refine q_icge rfl rfl (fun c128 => absurd c128 (by decide)) (fun c128 => ?_)
    refine q_aload_n rfl rfl rfl ?_
    refine q_dupr rfl rfl ?_
    refine q_getf rfl rfl (by decide) rfl rfl ?_
    refine q_lconst rfl rfl ?_
    refine q_bipush rfl rfl ?_
    refine q_iload_n rfl rfl rfl ?_
    refine q_imul rfl rfl (q_tn (z := 30) rfl ?_)
    refine q_lload_n rfl rfl rfl ?_
    refine q_iload_n rfl rfl rfl ?_
    refine q_nS2 rfl rfl (Or.inl rfl) rfl rfl ⟨rfl, rfl⟩ rfl ?_
    change PQ _ _ _ mm_X0_place 0 [.long 0, pm_un, .int 3] [] _ _ 0 0 _
    refine q_lload_n rfl rfl rfl ?_
    refine q_bipush rfl rfl ?_
    refine q_iconst rfl rfl ?_
    refine q_iload_n rfl rfl rfl ?_
    refine q_imul rfl rfl (q_tn (z := 12) rfl ?_)
    refine q_iadd rfl rfl (q_tn (z := 48) rfl ?_)
    refine q_lushr rfl rfl (q_tnl (z := 0) rfl ?_)
    refine q_l2i rfl rfl (q_tn (z := 0) rfl ?_)
    refine q_bipush rfl rfl ?_
    refine q_iand rfl rfl (q_tn (z := 0) rfl ?_)
    refine q_iret rfl rfl trivial ?_
    refine ⟨_, rfl, ?_⟩
    refine q_iadd rfl rfl (q_tn (z := 30) rfl ?_)
    refine q_lshl rfl rfl (q_tnl (z := 1073741824) rfl ?_)
    refine q_lor rfl rfl (q_tnl (z := 1074791425) rfl ?_)
    refine q_putf rfl rfl (by decide) rfl (by decide) rfl trivial ?_
    refine q_icc3 (z := 4) rfl rfl rfl rfl rfl ?_
    refine q_goto rfl ?_
    refine q_iload_n rfl rfl rfl ?_
    refine q_iconst rfl rfl ?_
    refine q_icge rfl rfl (fun c129 => ?_) (fun c129 => absurd (by decide) c129)
    refine q_ret rfl rfl ?_
    refine ⟨rfl, ?_⟩
    refine q_ret rfl rfl ?_
    refine ⟨rfl, ?_⟩
    refine q_aload_n rfl rfl rfl ?_
    refine q_getf rfl rfl (by decide) rfl rfl ?_
    refine q_ifne rfl rfl (fun c130 => ?_) (fun c130 => absurd (by decide) c130)
    refine q_iload_n rfl rfl rfl ?_
    refine q_ifeq rfl rfl (fun c131 => ?_) (fun c131 => absurd (by decide) c131)
    refine q_icc3 (z := 1) rfl rfl rfl rfl rfl ?_
    refine q_goto rfl ?_
    refine q_iload_n rfl rfl rfl ?_
    refine q_sipush rfl rfl ?_
    refine q_icge rfl rfl (fun c132 => absurd c132 (by decide)) (fun c132 => ?_)
    refine q_iload_n rfl rfl rfl ?_
    refine q_aload_n rfl rfl rfl ?_
    refine q_getf rfl rfl (by decide) rfl rfl ?_
    refine q_icge rfl rfl (fun c133 => ?_) (fun c133 => absurd (by decide) c133)
    refine q_ret rfl rfl ?_
    refine ⟨rfl, ?_⟩
    refine q_aload_n rfl rfl rfl ?_
    refine q_getf rfl rfl (by decide) (FW_0 S hW) rfl ?_
    refine q_iconst rfl rfl ?_
    refine q_putf rfl rfl (by decide) rfl (by decide) rfl trivial ?_
    refine q_aload_n rfl rfl rfl ?_
    refine q_getf rfl rfl (by decide) (FW_0 S hW) rfl ?_
    refine q_iload_n rfl rfl rfl ?_
    refine q_aload_n rfl rfl rfl ?_
    refine q_getf rfl rfl (by decide) rfl rfl ?_
    refine q_ifeq rfl rfl (fun c134 => ?_) (fun c134 => absurd (by decide) c134)
    refine q_aload_n rfl rfl rfl ?_
    refine q_getf rfl rfl (by decide) rfl rfl ?_
    refine q_iast rfl rfl (by decide) rfl (by decide) ?_
    refine q_aload_n rfl rfl rfl ?_
    refine q_getf rfl rfl (by decide) (FW_0 S hW) rfl ?_
    refine q_iload_n rfl rfl rfl ?_
    refine q_aload_n rfl rfl rfl ?_
    refine q_getf rfl rfl (by decide) rfl rfl ?_
    refine q_last rfl rfl (by decide) rfl (by decide) ?_
    refine q_aload_n rfl rfl rfl ?_
    refine q_getf rfl rfl (by decide) (FW_0 S hW) rfl ?_
    refine q_iload_n rfl rfl rfl ?_
    refine q_iald rfl rfl (by decide) rfl (by decide) (q_tn (z := 1) rfl ?_)
    refine q_iret rfl rfl trivial ?_
    refine ⟨_, rfl, ?_⟩
    refine q_bipush rfl rfl ?_
    refine q_icne rfl rfl (fun c135 => absurd c135 (by decide)) (fun c135 => ?_)
    refine q_iconst rfl rfl ?_
    refine q_ior rfl rfl (q_tn (z := 0) rfl ?_)
    refine q_ist1n rfl rfl rfl rfl ?_
    refine q_icc2 (z := 2) rfl rfl rfl rfl rfl ?_
    refine q_goto rfl ?_
    refine q_iload_n rfl rfl rfl ?_
    refine q_iconst rfl rfl ?_
    refine q_icge rfl rfl (fun c136 => absurd c136 (by decide)) (fun c136 => ?_)
    refine q_iload_n rfl rfl rfl ?_
    refine q_aload_n rfl rfl rfl ?_
    refine q_iload_n rfl rfl rfl ?_
    refine q_nV1 rfl rfl (Or.inl rfl) rfl rfl rfl (by decide) (FW_0 S hW) ⟨rfl, rfl⟩ rfl ?_
    change PQ _ _ _ mm_X11_sizeOf 0 [.ref 0, .int 2, pm_un] [] _ _ 0 0 _
    refine q_aload_n rfl rfl rfl ?_
    refine q_getf rfl rfl (by decide) (FW_0 S hW) rfl ?_
    refine q_iload_n rfl rfl rfl ?_
    refine q_iald rfl rfl (by decide) rfl (by decide) (q_tn (z := 0) rfl ?_)
    refine q_ifne rfl rfl (fun c137 => ?_) (fun c137 => absurd (by decide) c137)
    refine q_iload_n rfl rfl rfl ?_
    refine q_ifne rfl rfl (fun c138 => absurd c138 (by decide)) (fun c138 => ?_)
    refine q_aload_n rfl rfl rfl ?_
    refine q_getf rfl rfl (by decide) (FW_0 S hW) rfl ?_
    refine q_ast2n rfl rfl rfl rfl ?_
    refine q_aload_n rfl rfl rfl ?_
    refine q_getf rfl rfl (by decide) (FW_0 S hW) rfl ?_
    refine q_iload_n rfl rfl rfl ?_
    refine q_putf rfl rfl (by decide) rfl (by decide) rfl trivial ?_
    refine q_aload_n rfl rfl rfl ?_
    refine q_aload_n rfl rfl rfl ?_
    refine q_getf rfl rfl (by decide) (FW_0 S hW) rfl ?_
    refine q_iconst rfl rfl ?_
    refine q_nV2v rfl rfl (Or.inl rfl) rfl rfl rfl (by decide) rfl ⟨rfl, rfl⟩ rfl ?_
    change PQ _ _ _ mm_X7_explore 0 [.ref 16, .ref 7, .int 0, pm_un] [] _ _ 0 0 _
    refine q_aload_n rfl rfl rfl ?_
    refine q_nV0v rfl rfl (Or.inl rfl) rfl rfl rfl (by decide) rfl ⟨rfl, rfl⟩ rfl ?_
    change PQ _ _ _ mm_X7_clear 0 [.ref 16, pm_un] [] _ _ 0 0 _
    refine q_iconst rfl rfl ?_
    refine q_ist1n rfl rfl rfl rfl ?_
    refine q_iload_n rfl rfl rfl ?_
    refine q_aload_n rfl rfl rfl ?_
    refine q_getf rfl rfl (by decide) rfl rfl ?_
    refine q_icge rfl rfl (fun c139 => absurd c139 (by decide)) (fun c139 => ?_)
    refine q_aload_n rfl rfl rfl ?_
    refine q_getf rfl rfl (by decide) rfl rfl ?_
    refine q_aload_n rfl rfl rfl ?_
    refine q_getf rfl rfl (by decide) rfl rfl ?_
    refine q_iload_n rfl rfl rfl ?_
    refine q_iald rfl rfl (by decide) rfl (by decide) (q_tn (z := 0) rfl ?_)
    refine q_iconst rfl rfl ?_
    refine q_iast rfl rfl (by decide) rfl (by decide) ?_
    refine q_icc1 (z := 1) rfl rfl rfl rfl rfl ?_
    refine q_goto rfl ?_
    refine q_iload_n rfl rfl rfl ?_
    refine q_aload_n rfl rfl rfl ?_
    refine q_getf rfl rfl (by decide) rfl rfl ?_
    refine q_icge rfl rfl (fun c140 => ?_) (fun c140 => absurd (by decide) c140)
    refine q_aload_n rfl rfl rfl ?_
    refine q_iconst rfl rfl ?_
    refine q_putf rfl rfl (by decide) rfl (by decide) rfl trivial ?_
    refine q_aload_n rfl rfl rfl ?_
    refine q_iconst rfl rfl ?_
    refine q_putf rfl rfl (by decide) rfl (by decide) rfl rfl ?_
    refine q_aload_n rfl rfl rfl ?_
    refine q_iconst rfl rfl ?_
    refine q_putf rfl rfl (by decide) rfl (by decide) rfl rfl ?_
    refine q_aload_n rfl rfl rfl ?_
    refine q_lconst rfl rfl ?_
    refine q_putf rfl rfl (by decide) rfl (by decide) rfl trivial ?_
    refine q_ret rfl rfl ?_
    refine ⟨rfl, ?_⟩
    refine q_aload_n rfl rfl rfl ?_
    refine q_aload_n rfl rfl rfl ?_
    refine q_nV0 rfl rfl (Or.inl rfl) rfl rfl rfl (by decide) rfl ⟨rfl, rfl⟩ rfl ?_
    change PQ _ _ _ mm_X6_first 0 [.ref 7, pm_un, pm_un, pm_un] [] _ _ 0 0 _
    refine q_lconst rfl rfl ?_
    refine q_lst1n rfl rfl rfl rfl ?_
    refine q_iconst rfl rfl ?_
    refine q_ist3n rfl rfl rfl rfl ?_
    refine q_iload_n rfl rfl rfl ?_
    refine q_iconst rfl rfl ?_
    refine q_icge rfl rfl (fun c141 => absurd c141 (by decide)) (fun c141 => ?_)
    refine q_lload_n rfl rfl rfl ?_
    refine q_iload_n rfl rfl rfl ?_
    refine q_aload_n rfl rfl rfl ?_
    refine q_getf rfl rfl (by decide) rfl rfl ?_
    refine q_getf rfl rfl (by decide) (FW_1 S hW) rfl ?_
    refine q_iload_n rfl rfl rfl ?_
    refine q_iald rfl rfl (by decide) (FW_2 S hW) (by decide) (q_tn (z := 0) rfl ?_)
    refine q_nS3 rfl rfl (Or.inl rfl) rfl rfl ⟨rfl, rfl⟩ rfl ?_
    change PQ _ _ _ mm_X0_withPlace 0 [.long 0, pm_un, .int 0, .int 0, pm_un] [] _ _ 0 0 _
    refine q_bipush rfl rfl ?_
    refine q_iconst rfl rfl ?_
    refine q_iload_n rfl rfl rfl ?_
    refine q_imul rfl rfl (q_tn (z := 0) rfl ?_)
    refine q_iadd rfl rfl (q_tn (z := 36) rfl ?_)
    refine q_ist4 rfl rfl rfl rfl ?_
    refine q_lload_n rfl rfl rfl ?_
    refine q_ldc2 rfl rfl ?_
    refine q_iload rfl rfl rfl ?_
    refine q_lshl rfl rfl (q_tnl (z := 1030792151040) rfl ?_)
    refine q_ldc2 rfl rfl ?_
    refine q_lxor rfl rfl (q_tnl (z := (-1030792151041)) rfl ?_)
    refine q_land rfl rfl (q_tnl (z := 0) rfl ?_)
    refine q_iload_n rfl rfl rfl ?_
    refine q_i2l rfl rfl (q_tnl (z := 0) rfl ?_)
    refine q_iload rfl rfl rfl ?_
    refine q_lshl rfl rfl (q_tnl (z := 0) rfl ?_)
    refine q_lor rfl rfl (q_tnl (z := 0) rfl ?_)
    refine q_lret rfl rfl trivial ?_
    refine ⟨_, rfl, ?_⟩
    refine q_lst1n rfl rfl rfl rfl ?_
    refine q_icc3 (z := 1) rfl rfl rfl rfl rfl ?_
    refine q_goto rfl ?_
    refine q_iload_n rfl rfl rfl ?_
    refine q_iconst rfl rfl ?_
    refine q_icge rfl rfl (fun c142 => absurd c142 (by decide)) (fun c142 => ?_)
    refine q_lload_n rfl rfl rfl ?_
    refine q_iload_n rfl rfl rfl ?_
    refine q_aload_n rfl rfl rfl ?_
    refine q_getf rfl rfl (by decide) rfl rfl ?_
    refine q_getf rfl rfl (by decide) (FW_1 S hW) rfl ?_
    refine q_iload_n rfl rfl rfl ?_
    refine q_iald rfl rfl (by decide) (FW_2 S hW) (by decide) (q_tn (z := 0) rfl ?_)
    refine q_nS3 rfl rfl (Or.inl rfl) rfl rfl ⟨rfl, rfl⟩ rfl ?_
    change PQ _ _ _ mm_X0_withPlace 0 [.long 0, pm_un, .int 1, .int 0, pm_un] [] _ _ 0 0 _
    refine q_bipush rfl rfl ?_
    refine q_iconst rfl rfl ?_
    refine q_iload_n rfl rfl rfl ?_
    refine q_imul rfl rfl (q_tn (z := 4) rfl ?_)
    refine q_iadd rfl rfl (q_tn (z := 40) rfl ?_)
    refine q_ist4 rfl rfl rfl rfl ?_
    refine q_lload_n rfl rfl rfl ?_
    refine q_ldc2 rfl rfl ?_
    refine q_iload rfl rfl rfl ?_
    refine q_lshl rfl rfl (q_tnl (z := 16492674416640) rfl ?_)
    refine q_ldc2 rfl rfl ?_
    refine q_lxor rfl rfl (q_tnl (z := (-16492674416641)) rfl ?_)
    refine q_land rfl rfl (q_tnl (z := 0) rfl ?_)
    refine q_iload_n rfl rfl rfl ?_
    refine q_i2l rfl rfl (q_tnl (z := 0) rfl ?_)
    refine q_iload rfl rfl rfl ?_
    refine q_lshl rfl rfl (q_tnl (z := 0) rfl ?_)
    refine q_lor rfl rfl (q_tnl (z := 0) rfl ?_)
    refine q_lret rfl rfl trivial ?_
    refine ⟨_, rfl, ?_⟩
    refine q_lst1n rfl rfl rfl rfl ?_
    refine q_icc3 (z := 2) rfl rfl rfl rfl rfl ?_
    refine q_goto rfl ?_
    refine q_iload_n rfl rfl rfl ?_
    refine q_iconst rfl rfl ?_
    refine q_icge rfl rfl (fun c143 => absurd c143 (by decide)) (fun c143 => ?_)
    refine q_lload_n rfl rfl rfl ?_
    refine q_iload_n rfl rfl rfl ?_
    refine q_aload_n rfl rfl rfl ?_
    refine q_getf rfl rfl (by decide) rfl rfl ?_
    refine q_getf rfl rfl (by decide) (FW_1 S hW) rfl ?_
    refine q_iload_n rfl rfl rfl ?_
    refine q_iald rfl rfl (by decide) (FW_2 S hW) (by decide) (q_tn (z := 0) rfl ?_)
    refine q_nS3 rfl rfl (Or.inl rfl) rfl rfl ⟨rfl, rfl⟩ rfl ?_
    change PQ _ _ _ mm_X0_withPlace 0 [.long 0, pm_un, .int 2, .int 0, pm_un] [] _ _ 0 0 _
    refine q_bipush rfl rfl ?_
    refine q_iconst rfl rfl ?_
    refine q_iload_n rfl rfl rfl ?_
    refine q_imul rfl rfl (q_tn (z := 8) rfl ?_)
    refine q_iadd rfl rfl (q_tn (z := 44) rfl ?_)
    refine q_ist4 rfl rfl rfl rfl ?_
    refine q_lload_n rfl rfl rfl ?_
    refine q_ldc2 rfl rfl ?_
    refine q_iload rfl rfl rfl ?_
    refine q_lshl rfl rfl (q_tnl (z := 263882790666240) rfl ?_)
    refine q_ldc2 rfl rfl ?_
    refine q_lxor rfl rfl (q_tnl (z := (-263882790666241)) rfl ?_)
    refine q_land rfl rfl (q_tnl (z := 0) rfl ?_)
    refine q_iload_n rfl rfl rfl ?_
    refine q_i2l rfl rfl (q_tnl (z := 0) rfl ?_)
    refine q_iload rfl rfl rfl ?_
    refine q_lshl rfl rfl (q_tnl (z := 0) rfl ?_)
    refine q_lor rfl rfl (q_tnl (z := 0) rfl ?_)
    refine q_lret rfl rfl trivial ?_
    refine ⟨_, rfl, ?_⟩
    refine q_lst1n rfl rfl rfl rfl ?_
    refine q_icc3 (z := 3) rfl rfl rfl rfl rfl ?_
    refine q_goto rfl ?_
    refine q_iload_n rfl rfl rfl ?_
    refine q_iconst rfl rfl ?_
    refine q_icge rfl rfl (fun c144 => absurd c144 (by decide)) (fun c144 => ?_)
    refine q_lload_n rfl rfl rfl ?_
    refine q_iload_n rfl rfl rfl ?_
    refine q_aload_n rfl rfl rfl ?_
    refine q_getf rfl rfl (by decide) rfl rfl ?_
    refine q_getf rfl rfl (by decide) (FW_1 S hW) rfl ?_
    refine q_iload_n rfl rfl rfl ?_
    refine q_iald rfl rfl (by decide) (FW_2 S hW) (by decide) (q_tn (z := 0) rfl ?_)
    refine q_nS3 rfl rfl (Or.inl rfl) rfl rfl ⟨rfl, rfl⟩ rfl ?_
    change PQ _ _ _ mm_X0_withPlace 0 [.long 0, pm_un, .int 3, .int 0, pm_un] [] _ _ 0 0 _
    refine q_bipush rfl rfl ?_
    refine q_iconst rfl rfl ?_
    refine q_iload_n rfl rfl rfl ?_
    refine q_imul rfl rfl (q_tn (z := 12) rfl ?_)
    refine q_iadd rfl rfl (q_tn (z := 48) rfl ?_)
    refine q_ist4 rfl rfl rfl rfl ?_
    refine q_lload_n rfl rfl rfl ?_
    refine q_ldc2 rfl rfl ?_
    refine q_iload rfl rfl rfl ?_
    refine q_lshl rfl rfl (q_tnl (z := 4222124650659840) rfl ?_)
    refine q_ldc2 rfl rfl ?_
    refine q_lxor rfl rfl (q_tnl (z := (-4222124650659841)) rfl ?_)
    refine q_land rfl rfl (q_tnl (z := 0) rfl ?_)
    refine q_iload_n rfl rfl rfl ?_
    refine q_i2l rfl rfl (q_tnl (z := 0) rfl ?_)
    refine q_iload rfl rfl rfl ?_
    refine q_lshl rfl rfl (q_tnl (z := 0) rfl ?_)
    refine q_lor rfl rfl (q_tnl (z := 0) rfl ?_)
    refine q_lret rfl rfl trivial ?_
    refine ⟨_, rfl, ?_⟩
    refine q_lst1n rfl rfl rfl rfl ?_
    refine q_icc3 (z := 4) rfl rfl rfl rfl rfl ?_
    refine q_goto rfl ?_
    refine q_iload_n rfl rfl rfl ?_
    refine q_iconst rfl rfl ?_
    refine q_icge rfl rfl (fun c145 => ?_) (fun c145 => absurd (by decide) c145)
    refine q_lload_n rfl rfl rfl ?_
    refine q_lret rfl rfl trivial ?_
    refine ⟨_, rfl, ?_⟩
    refine q_iconst rfl rfl ?_
    refine q_iconst rfl rfl ?_
    refine q_nV3 rfl rfl (Or.inl rfl) rfl rfl rfl (by decide) rfl ⟨rfl, rfl⟩ rfl ?_
    change PQ _ _ _ mm_X7_numberOf 0 [.ref 16, .long 0, pm_un, .int (-1), .int (-1), pm_un, pm_un, pm_un] [] _ _ 0 0 _
    refine q_lload_n rfl rfl rfl ?_
    refine q_ldc2 rfl rfl ?_
    refine q_lmul rfl rfl (q_tnl (z := 0) rfl ?_)
    refine q_bipush rfl rfl ?_
    refine q_lushr rfl rfl (q_tnl (z := 0) rfl ?_)
    refine q_l2i rfl rfl (q_tn (z := 0) rfl ?_)
    refine q_sipush rfl rfl ?_
    refine q_iand rfl rfl (q_tn (z := 0) rfl ?_)
    refine q_ist5 rfl rfl rfl rfl ?_
    refine q_iconst rfl rfl ?_
    refine q_ist6 rfl rfl rfl rfl ?_
    refine q_iload rfl rfl rfl ?_
    refine q_sipush rfl rfl ?_
    refine q_icge rfl rfl (fun c146 => absurd c146 (by decide)) (fun c146 => ?_)
    refine q_aload_n rfl rfl rfl ?_
    refine q_getf rfl rfl (by decide) rfl rfl ?_
    refine q_iload rfl rfl rfl ?_
    refine q_iald rfl rfl (by decide) rfl (by decide) (q_tn (z := 0) rfl ?_)
    refine q_iconst rfl rfl ?_
    refine q_isub rfl rfl (q_tn (z := (-1)) rfl ?_)
    refine q_ist7 rfl rfl rfl rfl ?_
    refine q_iload rfl rfl rfl ?_
    refine q_ifge rfl rfl (fun c147 => absurd c147 (by decide)) (fun c147 => ?_)
    refine q_aload_n rfl rfl rfl ?_
    refine q_lload_n rfl rfl rfl ?_
    refine q_iload rfl rfl rfl ?_
    refine q_iload_n rfl rfl rfl ?_
    refine q_iload rfl rfl rfl ?_
    refine q_nV4 rfl rfl (Or.inl rfl) rfl rfl rfl (by decide) rfl ⟨rfl, rfl⟩ rfl ?_
    change PQ _ _ _ mm_X7_newNumber 0 [.ref 16, .long 0, pm_un, .int 0, .int (-1), .int (-1), pm_un] [] _ _ 0 0 _
    refine q_aload_n rfl rfl rfl ?_
    refine q_getf rfl rfl (by decide) rfl rfl ?_
    refine q_sipush rfl rfl ?_
    refine q_iclt rfl rfl (fun c148 => ?_) (fun c148 => absurd (by decide) c148)
    refine q_aload_n rfl rfl rfl ?_
    refine q_dupr rfl rfl ?_
    refine q_getf rfl rfl (by decide) rfl rfl ?_
    refine q_dupx1 rfl rfl ?_
    refine q_iconst rfl rfl ?_
    refine q_iadd rfl rfl (q_tn (z := 1) rfl ?_)
    refine q_putf rfl rfl (by decide) rfl (by decide) rfl trivial ?_
    refine q_ist6 rfl rfl rfl rfl ?_
    refine q_aload_n rfl rfl rfl ?_
    refine q_getf rfl rfl (by decide) rfl rfl ?_
    refine q_iload rfl rfl rfl ?_
    refine q_lload_n rfl rfl rfl ?_
    refine q_last rfl rfl (by decide) rfl (by decide) ?_
    refine q_aload_n rfl rfl rfl ?_
    refine q_getf rfl rfl (by decide) rfl rfl ?_
    refine q_iload rfl rfl rfl ?_
    refine q_iload rfl rfl rfl ?_
    refine q_iast rfl rfl (by decide) rfl (by decide) ?_
    refine q_aload_n rfl rfl rfl ?_
    refine q_getf rfl rfl (by decide) rfl rfl ?_
    refine q_iload rfl rfl rfl ?_
    refine q_iload rfl rfl rfl ?_
    refine q_iast rfl rfl (by decide) rfl (by decide) ?_
    refine q_aload_n rfl rfl rfl ?_
    refine q_getf rfl rfl (by decide) rfl rfl ?_
    refine q_iload rfl rfl rfl ?_
    refine q_iload_n rfl rfl rfl ?_
    refine q_iast rfl rfl (by decide) rfl (by decide) ?_
    refine q_aload_n rfl rfl rfl ?_
    refine q_getf rfl rfl (by decide) rfl rfl ?_
    refine q_iload_n rfl rfl rfl ?_
    refine q_iload rfl rfl rfl ?_
    refine q_iconst rfl rfl ?_
    refine q_iadd rfl rfl (q_tn (z := 1) rfl ?_)
    refine q_iast rfl rfl (by decide) rfl (by decide) ?_
    refine q_iload rfl rfl rfl ?_
    refine q_iret rfl rfl trivial ?_
    refine ⟨_, rfl, ?_⟩
    refine q_iret rfl rfl trivial ?_
    refine ⟨_, rfl, ?_⟩
    refine q_pop rfl rfl ?_
    refine q_iconst rfl rfl ?_
    refine q_ist3n rfl rfl rfl rfl ?_
    refine q_iload_n rfl rfl rfl ?_
    refine q_sipush rfl rfl ?_
    refine q_icge rfl rfl (fun c149 => absurd c149 (by decide)) (fun c149 => ?_)
    refine q_iload_n rfl rfl rfl ?_
    refine q_aload_n rfl rfl rfl ?_
    refine q_getf rfl rfl (by decide) rfl rfl ?_
    refine q_icge rfl rfl (fun c150 => absurd c150 (by decide)) (fun c150 => ?_)
    refine q_aload_n rfl rfl rfl ?_
    refine q_aload_n rfl rfl rfl ?_
    refine q_iload_n rfl rfl rfl ?_
    refine q_nV2v rfl rfl (Or.inl rfl) rfl rfl rfl (by decide) rfl ⟨rfl, rfl⟩ rfl ?_
    change PQ _ _ _ mm_X7_lookAt 0 [.ref 16, .ref 7, .int 0, pm_un, pm_un, pm_un, pm_un, pm_un, pm_un, pm_un] [] _ _ 0 0 _
    refine q_aload_n rfl rfl rfl ?_
    refine q_getf rfl rfl (by decide) rfl rfl ?_
    refine q_iload_n rfl rfl rfl ?_
    refine q_lald rfl rfl (by decide) rfl (by decide) (q_tnl (z := 0) rfl ?_)
    refine q_lst3n rfl rfl rfl rfl ?_
    refine q_aload_n rfl rfl rfl ?_
    refine q_aload_n rfl rfl rfl ?_
    refine q_lload_n rfl rfl rfl ?_
    refine q_nV1 rfl rfl (Or.inl rfl) rfl rfl rfl (by decide) rfl ⟨rfl, rfl⟩ rfl ?_
    change PQ _ _ _ mm_X6_ableHands 0 [.ref 7, .long 0, pm_un, pm_un, pm_un, pm_un] [] _ _ 0 0 _
    refine q_aload_n rfl rfl rfl ?_
    refine q_lload_n rfl rfl rfl ?_
    refine q_nV1 rfl rfl (Or.inl rfl) rfl rfl rfl (by decide) rfl ⟨rfl, rfl⟩ rfl ?_
    change PQ _ _ _ mm_X6_allMeet 0 [.ref 7, .long 0, pm_un, pm_un, pm_un] [] _ _ 0 0 _
    refine q_iconst rfl rfl ?_
    refine q_ist3n rfl rfl rfl rfl ?_
    refine q_iload_n rfl rfl rfl ?_
    refine q_aload_n rfl rfl rfl ?_
    refine q_getf rfl rfl (by decide) rfl rfl ?_
    refine q_getf rfl rfl (by decide) (FW_1 S hW) rfl ?_
    refine q_icge rfl rfl (fun c151 => absurd c151 (by decide)) (fun c151 => ?_)
    refine q_aload_n rfl rfl rfl ?_
    refine q_getf rfl rfl (by decide) rfl rfl ?_
    refine q_iload_n rfl rfl rfl ?_
    refine q_lload_n rfl rfl rfl ?_
    refine q_iload_n rfl rfl rfl ?_
    refine q_nS2 rfl rfl (Or.inl rfl) rfl rfl ⟨rfl, rfl⟩ rfl ?_
    change PQ _ _ _ mm_X0_position 0 [.long 0, pm_un, .int 0] [] _ _ 0 0 _
    refine q_lload_n rfl rfl rfl ?_
    refine q_bipush rfl rfl ?_
    refine q_iload_n rfl rfl rfl ?_
    refine q_imul rfl rfl (q_tn (z := 0) rfl ?_)
    refine q_lushr rfl rfl (q_tnl (z := 0) rfl ?_)
    refine q_l2i rfl rfl (q_tn (z := 0) rfl ?_)
    refine q_bipush rfl rfl ?_
    refine q_iand rfl rfl (q_tn (z := 0) rfl ?_)
    refine q_iret rfl rfl trivial ?_
    refine ⟨_, rfl, ?_⟩
    refine q_nV2 rfl rfl (Or.inl rfl) rfl rfl rfl (by decide) (FW_1 S hW) ⟨rfl, rfl⟩ rfl ?_
    change PQ _ _ _ mm_X8_cellOf 0 [.ref 1, .int 0, .int 0, pm_un] [] _ _ 0 0 _
    refine q_iload_n rfl rfl rfl ?_
    refine q_iflt rfl rfl (fun c152 => absurd c152 (by decide)) (fun c152 => ?_)
    refine q_iload_n rfl rfl rfl ?_
    refine q_aload_n rfl rfl rfl ?_
    refine q_getf rfl rfl (by decide) (FW_1 S hW) rfl ?_
    refine q_icge rfl rfl (fun c153 => absurd c153 (by decide)) (fun c153 => ?_)
    refine q_iload_n rfl rfl rfl ?_
    refine q_iflt rfl rfl (fun c154 => absurd c154 (by decide)) (fun c154 => ?_)
    refine q_iload_n rfl rfl rfl ?_
    refine q_aload_n rfl rfl rfl ?_
    refine q_getf rfl rfl (by decide) (FW_1 S hW) rfl ?_
    refine q_iload_n rfl rfl rfl ?_
    refine q_iald rfl rfl (by decide) (FW_3 S hW) (by decide) (q_tn (z := 0) rfl ?_)
    refine q_icge rfl rfl (fun c155 => ?_) (fun c155 => absurd (by decide) c155)
    refine q_iconst rfl rfl ?_
    refine q_ist3n rfl rfl rfl rfl ?_
    refine q_iload_n rfl rfl rfl ?_
    refine q_ifeq rfl rfl (fun c156 => ?_) (fun c156 => absurd (by decide) c156)
    refine q_iconst rfl rfl ?_
    refine q_iret rfl rfl trivial ?_
    refine ⟨_, rfl, ?_⟩
    refine q_ist4 rfl rfl rfl rfl ?_
    refine q_iload rfl rfl rfl ?_
    refine q_iflt rfl rfl (fun c157 => ?_) (fun c157 => absurd (by decide) c157)
    refine q_icc3 (z := 1) rfl rfl rfl rfl rfl ?_
    refine q_goto rfl ?_
    refine q_iload_n rfl rfl rfl ?_
    refine q_aload_n rfl rfl rfl ?_
    refine q_getf rfl rfl (by decide) rfl rfl ?_
    refine q_getf rfl rfl (by decide) (FW_1 S hW) rfl ?_
    refine q_icge rfl rfl (fun c158 => ?_) (fun c158 => absurd (by decide) c158)
    refine q_iconst rfl rfl ?_
    refine q_iret rfl rfl rfl ?_
    refine ⟨_, rfl, ?_⟩
    refine q_ist3n rfl rfl rfl rfl ?_
    refine q_iconst rfl rfl ?_
    refine q_ist4 rfl rfl rfl rfl ?_
    refine q_iconst rfl rfl ?_
    refine q_ist5 rfl rfl rfl rfl ?_
    refine q_iload rfl rfl rfl ?_
    refine q_aload_n rfl rfl rfl ?_
    refine q_getf rfl rfl (by decide) rfl rfl ?_
    refine q_getf rfl rfl (by decide) (FW_1 S hW) rfl ?_
    refine q_icge rfl rfl (fun c159 => absurd c159 (by decide)) (fun c159 => ?_)
    refine q_aload_n rfl rfl rfl ?_
    refine q_lload_n rfl rfl rfl ?_
    refine q_iload rfl rfl rfl ?_
    refine q_iload_n rfl rfl rfl ?_
    refine q_nV3 rfl rfl (Or.inl rfl) rfl rfl rfl (by decide) rfl ⟨rfl, rfl⟩ rfl ?_
    change PQ _ _ _ mm_X6_isAble 0 [.ref 7, .long 0, pm_un, .int 0, .int 1, pm_un, pm_un, pm_un] [] _ _ 0 0 _
    refine q_aload_n rfl rfl rfl ?_
    refine q_getf rfl rfl (by decide) rfl rfl ?_
    refine q_iload_n rfl rfl rfl ?_
    refine q_lload_n rfl rfl rfl ?_
    refine q_iload_n rfl rfl rfl ?_
    refine q_nS2 rfl rfl (Or.inl rfl) rfl rfl ⟨rfl, rfl⟩ rfl ?_
    change PQ _ _ _ mm_X0_position 0 [.long 0, pm_un, .int 0] [] _ _ 0 0 _
    refine q_lload_n rfl rfl rfl ?_
    refine q_bipush rfl rfl ?_
    refine q_iload_n rfl rfl rfl ?_
    refine q_imul rfl rfl (q_tn (z := 0) rfl ?_)
    refine q_lushr rfl rfl (q_tnl (z := 0) rfl ?_)
    refine q_l2i rfl rfl (q_tn (z := 0) rfl ?_)
    refine q_bipush rfl rfl ?_
    refine q_iand rfl rfl (q_tn (z := 0) rfl ?_)
    refine q_iret rfl rfl trivial ?_
    refine ⟨_, rfl, ?_⟩
    refine q_nV2 rfl rfl (Or.inl rfl) rfl rfl rfl (by decide) (FW_1 S hW) ⟨rfl, rfl⟩ rfl ?_
    change PQ _ _ _ mm_X8_cellOf 0 [.ref 1, .int 0, .int 0, pm_un] [] _ _ 0 0 _
    refine q_iload_n rfl rfl rfl ?_
    refine q_iflt rfl rfl (fun c160 => absurd c160 (by decide)) (fun c160 => ?_)
    refine q_iload_n rfl rfl rfl ?_
    refine q_aload_n rfl rfl rfl ?_
    refine q_getf rfl rfl (by decide) (FW_1 S hW) rfl ?_
    refine q_icge rfl rfl (fun c161 => absurd c161 (by decide)) (fun c161 => ?_)
    refine q_iload_n rfl rfl rfl ?_
    refine q_iflt rfl rfl (fun c162 => absurd c162 (by decide)) (fun c162 => ?_)
    refine q_iload_n rfl rfl rfl ?_
    refine q_aload_n rfl rfl rfl ?_
    refine q_getf rfl rfl (by decide) (FW_1 S hW) rfl ?_
    refine q_iload_n rfl rfl rfl ?_
    refine q_iald rfl rfl (by decide) (FW_3 S hW) (by decide) (q_tn (z := 0) rfl ?_)
    refine q_icge rfl rfl (fun c163 => ?_) (fun c163 => absurd (by decide) c163)
    refine q_iconst rfl rfl ?_
    refine q_ist3n rfl rfl rfl rfl ?_
    refine q_iload_n rfl rfl rfl ?_
    refine q_ifeq rfl rfl (fun c164 => ?_) (fun c164 => absurd (by decide) c164)
    refine q_iconst rfl rfl ?_
    refine q_iret rfl rfl trivial ?_
    refine ⟨_, rfl, ?_⟩
    refine q_ist5 rfl rfl rfl rfl ?_
    refine q_iload rfl rfl rfl ?_
    refine q_ifge rfl rfl (fun c165 => absurd c165 (by decide)) (fun c165 => ?_)
    refine q_iconst rfl rfl ?_
    refine q_iret rfl rfl rfl ?_
    refine ⟨_, rfl, ?_⟩
    refine q_ifeq rfl rfl (fun c166 => ?_) (fun c166 => absurd (by decide) c166)
    refine q_icc5 (z := 1) rfl rfl rfl rfl rfl ?_
    refine q_goto rfl ?_
    refine q_iload rfl rfl rfl ?_
    refine q_aload_n rfl rfl rfl ?_
    refine q_getf rfl rfl (by decide) rfl rfl ?_
    refine q_getf rfl rfl (by decide) (FW_1 S hW) rfl ?_
    refine q_icge rfl rfl (fun c167 => ?_) (fun c167 => absurd (by decide) c167)
    refine q_iload rfl rfl rfl ?_
    refine q_iret rfl rfl trivial ?_
    refine ⟨_, rfl, ?_⟩
    refine q_lload_n rfl rfl rfl ?_
    refine q_nS1 rfl rfl (Or.inl rfl) rfl rfl ⟨rfl, rfl⟩ rfl ?_
    change PQ _ _ _ mm_X0_last 0 [.long 0, pm_un] [] _ _ 0 0 _
    refine q_lload_n rfl rfl rfl ?_
    refine q_bipush rfl rfl ?_
    refine q_lushr rfl rfl (q_tnl (z := 0) rfl ?_)
    refine q_l2i rfl rfl (q_tn (z := 0) rfl ?_)
    refine q_iconst rfl rfl ?_
    refine q_iand rfl rfl (q_tn (z := 0) rfl ?_)
    refine q_iconst rfl rfl ?_
    refine q_isub rfl rfl (q_tn (z := (-1)) rfl ?_)
    refine q_iret rfl rfl trivial ?_
    refine ⟨_, rfl, ?_⟩
    refine q_nV2 rfl rfl (Or.inl rfl) rfl rfl rfl (by decide) rfl ⟨rfl, rfl⟩ rfl ?_
    change PQ _ _ _ mm_X6_chosenHands 0 [.ref 7, .int 0, .int (-1), pm_un, pm_un] [] _ _ 0 0 _
    refine q_aload_n rfl rfl rfl ?_
    refine q_getf rfl rfl (by decide) rfl rfl ?_
    refine q_iconst rfl rfl ?_
    refine q_icne rfl rfl (fun c168 => absurd c168 (by decide)) (fun c168 => ?_)
    refine q_aload_n rfl rfl rfl ?_
    refine q_getf rfl rfl (by decide) rfl rfl ?_
    refine q_iconst rfl rfl ?_
    refine q_iceq rfl rfl (fun c169 => ?_) (fun c169 => absurd (by decide) c169)
    refine q_iconst rfl rfl ?_
    refine q_ist3n rfl rfl rfl rfl ?_
    refine q_iload_n rfl rfl rfl ?_
    refine q_aload_n rfl rfl rfl ?_
    refine q_getf rfl rfl (by decide) rfl rfl ?_
    refine q_getf rfl rfl (by decide) (FW_1 S hW) rfl ?_
    refine q_icgt rfl rfl (fun c170 => absurd c170 (by decide)) (fun c170 => ?_)
    refine q_iload_n rfl rfl rfl ?_
    refine q_iload_n rfl rfl rfl ?_
    refine q_iadd rfl rfl (q_tn (z := 0) rfl ?_)
    refine q_aload_n rfl rfl rfl ?_
    refine q_getf rfl rfl (by decide) rfl rfl ?_
    refine q_getf rfl rfl (by decide) (FW_1 S hW) rfl ?_
    refine q_icge rfl rfl (fun c171 => absurd c171 (by decide)) (fun c171 => ?_)
    refine q_iload_n rfl rfl rfl ?_
    refine q_iload_n rfl rfl rfl ?_
    refine q_iadd rfl rfl (q_tn (z := 0) rfl ?_)
    refine q_goto rfl ?_
    refine q_ist4 rfl rfl rfl rfl ?_
    refine q_iload_n rfl rfl rfl ?_
    refine q_iload rfl rfl rfl ?_
    refine q_iushr rfl rfl (q_tn (z := 0) rfl ?_)
    refine q_iconst rfl rfl ?_
    refine q_iand rfl rfl (q_tn (z := 0) rfl ?_)
    refine q_ifeq rfl rfl (fun c172 => ?_) (fun c172 => absurd (by decide) c172)
    refine q_icc3 (z := 2) rfl rfl rfl rfl rfl ?_
    refine q_goto rfl ?_
    refine q_iload_n rfl rfl rfl ?_
    refine q_aload_n rfl rfl rfl ?_
    refine q_getf rfl rfl (by decide) rfl rfl ?_
    refine q_getf rfl rfl (by decide) (FW_1 S hW) rfl ?_
    refine q_icgt rfl rfl (fun c173 => ?_) (fun c173 => absurd (by decide) c173)
    refine q_iconst rfl rfl ?_
    refine q_iret rfl rfl trivial ?_
    refine ⟨_, rfl, ?_⟩
    refine q_ist5 rfl rfl rfl rfl ?_
    refine q_iconst rfl rfl ?_
    refine q_ist6 rfl rfl rfl rfl ?_
    refine q_iload rfl rfl rfl ?_
    refine q_iconst rfl rfl ?_
    refine q_icge rfl rfl (fun c174 => absurd c174 (by decide)) (fun c174 => ?_)
    refine q_iconst rfl rfl ?_
    refine q_ist7 rfl rfl rfl rfl ?_
    refine q_iload rfl rfl rfl ?_
    refine q_iload rfl rfl rfl ?_
    refine q_iushr rfl rfl (q_tn (z := 0) rfl ?_)
    refine q_iconst rfl rfl ?_
    refine q_iand rfl rfl (q_tn (z := 0) rfl ?_)
    refine q_ifeq rfl rfl (fun c175 => ?_) (fun c175 => absurd (by decide) c175)
    refine q_aload_n rfl rfl rfl ?_
    refine q_getf rfl rfl (by decide) rfl rfl ?_
    refine q_iload_n rfl rfl rfl ?_
    refine q_iconst rfl rfl ?_
    refine q_imul rfl rfl (q_tn (z := 0) rfl ?_)
    refine q_iload rfl rfl rfl ?_
    refine q_iadd rfl rfl (q_tn (z := 0) rfl ?_)
    refine q_iload rfl rfl rfl ?_
    refine q_iast rfl rfl (by decide) rfl (by decide) ?_
    refine q_icc6 (z := 1) rfl rfl rfl rfl rfl ?_
    refine q_goto rfl ?_
    refine q_iload rfl rfl rfl ?_
    refine q_iconst rfl rfl ?_
    refine q_icge rfl rfl (fun c176 => absurd c176 (by decide)) (fun c176 => ?_)
    refine q_iconst rfl rfl ?_
    refine q_ist7 rfl rfl rfl rfl ?_
    refine q_iload rfl rfl rfl ?_
    refine q_iload rfl rfl rfl ?_
    refine q_iushr rfl rfl (q_tn (z := 0) rfl ?_)
    refine q_iconst rfl rfl ?_
    refine q_iand rfl rfl (q_tn (z := 0) rfl ?_)
    refine q_ifeq rfl rfl (fun c177 => ?_) (fun c177 => absurd (by decide) c177)
    refine q_aload_n rfl rfl rfl ?_
    refine q_getf rfl rfl (by decide) rfl rfl ?_
    refine q_iload_n rfl rfl rfl ?_
    refine q_iconst rfl rfl ?_
    refine q_imul rfl rfl (q_tn (z := 0) rfl ?_)
    refine q_iload rfl rfl rfl ?_
    refine q_iadd rfl rfl (q_tn (z := 1) rfl ?_)
    refine q_iload rfl rfl rfl ?_
    refine q_iast rfl rfl (by decide) rfl (by decide) ?_
    refine q_icc6 (z := 2) rfl rfl rfl rfl rfl ?_
    refine q_goto rfl ?_
    refine q_iload rfl rfl rfl ?_
    refine q_iconst rfl rfl ?_
    refine q_icge rfl rfl (fun c178 => absurd c178 (by decide)) (fun c178 => ?_)
    refine q_iconst rfl rfl ?_
    refine q_ist7 rfl rfl rfl rfl ?_
    refine q_iload rfl rfl rfl ?_
    refine q_iload rfl rfl rfl ?_
    refine q_iushr rfl rfl (q_tn (z := 0) rfl ?_)
    refine q_iconst rfl rfl ?_
    refine q_iand rfl rfl (q_tn (z := 0) rfl ?_)
    refine q_ifeq rfl rfl (fun c179 => ?_) (fun c179 => absurd (by decide) c179)
    refine q_aload_n rfl rfl rfl ?_
    refine q_getf rfl rfl (by decide) rfl rfl ?_
    refine q_iload_n rfl rfl rfl ?_
    refine q_iconst rfl rfl ?_
    refine q_imul rfl rfl (q_tn (z := 0) rfl ?_)
    refine q_iload rfl rfl rfl ?_
    refine q_iadd rfl rfl (q_tn (z := 2) rfl ?_)
    refine q_iload rfl rfl rfl ?_
    refine q_iast rfl rfl (by decide) rfl (by decide) ?_
    refine q_icc6 (z := 3) rfl rfl rfl rfl rfl ?_
    refine q_goto rfl ?_
    refine q_iload rfl rfl rfl ?_
    refine q_iconst rfl rfl ?_
    refine q_icge rfl rfl (fun c180 => ?_) (fun c180 => absurd (by decide) c180)
    refine q_aload_n rfl rfl rfl ?_
    refine q_getf rfl rfl (by decide) rfl rfl ?_
    refine q_iload_n rfl rfl rfl ?_
    refine q_iload rfl rfl rfl ?_
    refine q_ifeq rfl rfl (fun c181 => ?_) (fun c181 => absurd (by decide) c181)
    refine q_aload_n rfl rfl rfl ?_
    refine q_lload_n rfl rfl rfl ?_
    refine q_nV1 rfl rfl (Or.inl rfl) rfl rfl rfl (by decide) rfl ⟨rfl, rfl⟩ rfl ?_
    change PQ _ _ _ mm_X6_isEnd 0 [.ref 7, .long 0, pm_un, pm_un] [] _ _ 0 0 _
    refine q_iconst rfl rfl ?_
    refine q_ist3n rfl rfl rfl rfl ?_
    refine q_iload_n rfl rfl rfl ?_
    refine q_aload_n rfl rfl rfl ?_
    refine q_getf rfl rfl (by decide) rfl rfl ?_
    refine q_getf rfl rfl (by decide) (FW_1 S hW) rfl ?_
    refine q_icge rfl rfl (fun c182 => absurd c182 (by decide)) (fun c182 => ?_)
    refine q_aload_n rfl rfl rfl ?_
    refine q_getf rfl rfl (by decide) rfl rfl ?_
    refine q_iload_n rfl rfl rfl ?_
    refine q_lload_n rfl rfl rfl ?_
    refine q_iload_n rfl rfl rfl ?_
    refine q_nS2 rfl rfl (Or.inl rfl) rfl rfl ⟨rfl, rfl⟩ rfl ?_
    change PQ _ _ _ mm_X0_position 0 [.long 0, pm_un, .int 0] [] _ _ 0 0 _
    refine q_lload_n rfl rfl rfl ?_
    refine q_bipush rfl rfl ?_
    refine q_iload_n rfl rfl rfl ?_
    refine q_imul rfl rfl (q_tn (z := 0) rfl ?_)
    refine q_lushr rfl rfl (q_tnl (z := 0) rfl ?_)
    refine q_l2i rfl rfl (q_tn (z := 0) rfl ?_)
    refine q_bipush rfl rfl ?_
    refine q_iand rfl rfl (q_tn (z := 0) rfl ?_)
    refine q_iret rfl rfl trivial ?_
    refine ⟨_, rfl, ?_⟩
    refine q_nV2 rfl rfl (Or.inl rfl) rfl rfl rfl (by decide) (FW_1 S hW) ⟨rfl, rfl⟩ rfl ?_
    change PQ _ _ _ mm_X8_cellOf 0 [.ref 1, .int 0, .int 0, pm_un] [] _ _ 0 0 _
    refine q_iload_n rfl rfl rfl ?_
    refine q_iflt rfl rfl (fun c183 => absurd c183 (by decide)) (fun c183 => ?_)
    refine q_iload_n rfl rfl rfl ?_
    refine q_aload_n rfl rfl rfl ?_
    refine q_getf rfl rfl (by decide) (FW_1 S hW) rfl ?_
    refine q_icge rfl rfl (fun c184 => absurd c184 (by decide)) (fun c184 => ?_)
    refine q_iload_n rfl rfl rfl ?_
    refine q_iflt rfl rfl (fun c185 => absurd c185 (by decide)) (fun c185 => ?_)
    refine q_iload_n rfl rfl rfl ?_
    refine q_aload_n rfl rfl rfl ?_
    refine q_getf rfl rfl (by decide) (FW_1 S hW) rfl ?_
    refine q_iload_n rfl rfl rfl ?_
    refine q_iald rfl rfl (by decide) (FW_3 S hW) (by decide) (q_tn (z := 0) rfl ?_)
    refine q_icge rfl rfl (fun c186 => ?_) (fun c186 => absurd (by decide) c186)
    refine q_iconst rfl rfl ?_
    refine q_ist3n rfl rfl rfl rfl ?_
    refine q_iload_n rfl rfl rfl ?_
    refine q_ifeq rfl rfl (fun c187 => ?_) (fun c187 => absurd (by decide) c187)
    refine q_iconst rfl rfl ?_
    refine q_iret rfl rfl trivial ?_
    refine ⟨_, rfl, ?_⟩
    refine q_iflt rfl rfl (fun c188 => ?_) (fun c188 => absurd (by decide) c188)
    refine q_icc3 (z := 1) rfl rfl rfl rfl rfl ?_
    refine q_goto rfl ?_
    refine q_iload_n rfl rfl rfl ?_
    refine q_aload_n rfl rfl rfl ?_
    refine q_getf rfl rfl (by decide) rfl rfl ?_
    refine q_getf rfl rfl (by decide) (FW_1 S hW) rfl ?_
    refine q_icge rfl rfl (fun c189 => ?_) (fun c189 => absurd (by decide) c189)
    refine q_iconst rfl rfl ?_
    refine q_iret rfl rfl rfl ?_
    refine ⟨_, rfl, ?_⟩
    refine q_ifeq rfl rfl (fun c190 => absurd c190 (by decide)) (fun c190 => ?_)
    refine q_iconst rfl rfl ?_
    refine q_goto rfl ?_
    refine q_iast rfl rfl (by decide) rfl (by decide) ?_
    refine q_aload_n rfl rfl rfl ?_
    refine q_dupr rfl rfl ?_
    refine q_getf rfl rfl (by decide) rfl rfl ?_
    refine q_aload_n rfl rfl rfl ?_
    refine q_getf rfl rfl (by decide) rfl rfl ?_
    refine q_iload_n rfl rfl rfl ?_
    refine q_iald rfl rfl (by decide) rfl (by decide) (q_tn (z := 1) rfl ?_)
    refine q_iconst rfl rfl ?_
    refine q_iceq rfl rfl (fun c191 => absurd c191 (by decide)) (fun c191 => ?_)
    refine q_aload_n rfl rfl rfl ?_
    refine q_lload_n rfl rfl rfl ?_
    refine q_nV1 rfl rfl (Or.inl rfl) rfl rfl rfl (by decide) rfl ⟨rfl, rfl⟩ rfl ?_
    as_aux_lemma =>
      change PQ _ _ _ mm_X6_someFailed 0 [.ref 7, .long 0, pm_un, pm_un] [] _ _ 0 0 _
      refine q_iconst rfl rfl ?_
      refine q_ist3n rfl rfl rfl rfl ?_
      refine q_iload_n rfl rfl rfl ?_
      refine q_aload_n rfl rfl rfl ?_
      refine q_getf rfl rfl (by decide) rfl rfl ?_
      refine q_getf rfl rfl (by decide) (FW_1 S hW) rfl ?_
      refine q_icge rfl rfl (fun c192 => absurd c192 (by decide)) (fun c192 => ?_)
      refine q_lload_n rfl rfl rfl ?_
      refine q_iload_n rfl rfl rfl ?_
      refine q_nS2 rfl rfl (Or.inl rfl) rfl rfl ⟨rfl, rfl⟩ rfl ?_
      change PQ _ _ _ mm_X0_position 0 [.long 0, pm_un, .int 0] [] _ _ 0 0 _
      refine q_lload_n rfl rfl rfl ?_
      refine q_bipush rfl rfl ?_
      refine q_iload_n rfl rfl rfl ?_
      refine q_imul rfl rfl (q_tn (z := 0) rfl ?_)
      refine q_lushr rfl rfl (q_tnl (z := 0) rfl ?_)
      refine q_l2i rfl rfl (q_tn (z := 0) rfl ?_)
      refine q_bipush rfl rfl ?_
      refine q_iand rfl rfl (q_tn (z := 0) rfl ?_)
      refine q_iret rfl rfl trivial ?_
      refine ⟨_, rfl, ?_⟩
      refine q_bipush rfl rfl ?_
      refine q_icne rfl rfl (fun c193 => absurd c193 (by decide)) (fun c193 => ?_)
      refine q_icc3 (z := 1) rfl rfl rfl rfl rfl ?_
      refine q_goto rfl ?_
      refine q_iload_n rfl rfl rfl ?_
      refine q_aload_n rfl rfl rfl ?_
      refine q_getf rfl rfl (by decide) rfl rfl ?_
      refine q_getf rfl rfl (by decide) (FW_1 S hW) rfl ?_
      refine q_icge rfl rfl (fun c194 => ?_) (fun c194 => absurd (by decide) c194)
      refine q_iconst rfl rfl ?_
      refine q_iret rfl rfl rfl ?_
      refine ⟨_, rfl, ?_⟩
      refine q_ifeq rfl rfl (fun c195 => ?_) (fun c195 => absurd (by decide) c195)
      refine q_iconst rfl rfl ?_
      refine q_ior rfl rfl (q_tn (z := 0) rfl ?_)
      refine q_putf rfl rfl (by decide) rfl (by decide) rfl rfl ?_
      refine q_aload_n rfl rfl rfl ?_
      refine q_getf rfl rfl (by decide) rfl rfl ?_
      refine q_iload_n rfl rfl rfl ?_
      refine q_iald rfl rfl (by decide) rfl (by decide) (q_tn (z := 1) rfl ?_)
      refine q_iconst rfl rfl ?_
      refine q_icne rfl rfl (fun c196 => ?_) (fun c196 => absurd (by decide) c196)
      refine q_aload_n rfl rfl rfl ?_
      refine q_lload_n rfl rfl rfl ?_
      refine q_nV1v rfl rfl (Or.inl rfl) rfl rfl rfl (by decide) rfl ⟨rfl, rfl⟩ rfl ?_
      change PQ _ _ _ mm_X7_noteEnd 0 [.ref 16, .long 0, pm_un, pm_un] [] _ _ 0 0 _
      refine q_iconst rfl rfl ?_
      refine q_ist3n rfl rfl rfl rfl ?_
      refine q_iload_n rfl rfl rfl ?_
      refine q_iconst rfl rfl ?_
      refine q_icge rfl rfl (fun c197 => absurd c197 (by decide)) (fun c197 => ?_)
      refine q_aload_n rfl rfl rfl ?_
      refine q_dupr rfl rfl ?_
      refine q_getf rfl rfl (by decide) rfl rfl ?_
      refine q_lconst rfl rfl ?_
      refine q_bipush rfl rfl ?_
      refine q_iload_n rfl rfl rfl ?_
      refine q_imul rfl rfl (q_tn (z := 0) rfl ?_)
      refine q_lload_n rfl rfl rfl ?_
      refine q_iload_n rfl rfl rfl ?_
      refine q_nS2 rfl rfl (Or.inl rfl) rfl rfl ⟨rfl, rfl⟩ rfl ?_
      change PQ _ _ _ mm_X0_place 0 [.long 0, pm_un, .int 0] [] _ _ 0 0 _
      refine q_lload_n rfl rfl rfl ?_
      refine q_bipush rfl rfl ?_
      refine q_iconst rfl rfl ?_
      refine q_iload_n rfl rfl rfl ?_
      refine q_imul rfl rfl (q_tn (z := 0) rfl ?_)
      refine q_iadd rfl rfl (q_tn (z := 36) rfl ?_)
      refine q_lushr rfl rfl (q_tnl (z := 0) rfl ?_)
      refine q_l2i rfl rfl (q_tn (z := 0) rfl ?_)
      refine q_bipush rfl rfl ?_
      refine q_iand rfl rfl (q_tn (z := 0) rfl ?_)
      refine q_iret rfl rfl trivial ?_
      refine ⟨_, rfl, ?_⟩
      refine q_iadd rfl rfl (q_tn (z := 0) rfl ?_)
      refine q_lshl rfl rfl (q_tnl (z := 1) rfl ?_)
      refine q_lor rfl rfl (q_tnl (z := 1) rfl ?_)
      refine q_putf rfl rfl (by decide) rfl (by decide) rfl trivial ?_
      refine q_icc3 (z := 1) rfl rfl rfl rfl rfl ?_
      refine q_goto rfl ?_
      refine q_iload_n rfl rfl rfl ?_
      refine q_iconst rfl rfl ?_
      refine q_icge rfl rfl (fun c198 => absurd c198 (by decide)) (fun c198 => ?_)
      refine q_aload_n rfl rfl rfl ?_
      refine q_dupr rfl rfl ?_
      refine q_getf rfl rfl (by decide) rfl rfl ?_
      refine q_lconst rfl rfl ?_
      refine q_bipush rfl rfl ?_
      refine q_iload_n rfl rfl rfl ?_
      refine q_imul rfl rfl (q_tn (z := 10) rfl ?_)
      refine q_lload_n rfl rfl rfl ?_
      refine q_iload_n rfl rfl rfl ?_
      refine q_nS2 rfl rfl (Or.inl rfl) rfl rfl ⟨rfl, rfl⟩ rfl ?_
      change PQ _ _ _ mm_X0_place 0 [.long 0, pm_un, .int 1] [] _ _ 0 0 _
      refine q_lload_n rfl rfl rfl ?_
      refine q_bipush rfl rfl ?_
      refine q_iconst rfl rfl ?_
      refine q_iload_n rfl rfl rfl ?_
      refine q_imul rfl rfl (q_tn (z := 4) rfl ?_)
      refine q_iadd rfl rfl (q_tn (z := 40) rfl ?_)
      refine q_lushr rfl rfl (q_tnl (z := 0) rfl ?_)
      refine q_l2i rfl rfl (q_tn (z := 0) rfl ?_)
      refine q_bipush rfl rfl ?_
      refine q_iand rfl rfl (q_tn (z := 0) rfl ?_)
      refine q_iret rfl rfl trivial ?_
      refine ⟨_, rfl, ?_⟩
      refine q_iadd rfl rfl (q_tn (z := 10) rfl ?_)
      refine q_lshl rfl rfl (q_tnl (z := 1024) rfl ?_)
      refine q_lor rfl rfl (q_tnl (z := 1025) rfl ?_)
      refine q_putf rfl rfl (by decide) rfl (by decide) rfl trivial ?_
      refine q_icc3 (z := 2) rfl rfl rfl rfl rfl ?_
      refine q_goto rfl ?_
      refine q_iload_n rfl rfl rfl ?_
      refine q_iconst rfl rfl ?_
      refine q_icge rfl rfl (fun c199 => absurd c199 (by decide)) (fun c199 => ?_)
      refine q_aload_n rfl rfl rfl ?_
      refine q_dupr rfl rfl ?_
      refine q_getf rfl rfl (by decide) rfl rfl ?_
      refine q_lconst rfl rfl ?_
      refine q_bipush rfl rfl ?_
      refine q_iload_n rfl rfl rfl ?_
      refine q_imul rfl rfl (q_tn (z := 20) rfl ?_)
      refine q_lload_n rfl rfl rfl ?_
      refine q_iload_n rfl rfl rfl ?_
      refine q_nS2 rfl rfl (Or.inl rfl) rfl rfl ⟨rfl, rfl⟩ rfl ?_
      change PQ _ _ _ mm_X0_place 0 [.long 0, pm_un, .int 2] [] _ _ 0 0 _
      refine q_lload_n rfl rfl rfl ?_
      refine q_bipush rfl rfl ?_
      refine q_iconst rfl rfl ?_
      refine q_iload_n rfl rfl rfl ?_
      refine q_imul rfl rfl (q_tn (z := 8) rfl ?_)
      refine q_iadd rfl rfl (q_tn (z := 44) rfl ?_)
      refine q_lushr rfl rfl (q_tnl (z := 0) rfl ?_)
      refine q_l2i rfl rfl (q_tn (z := 0) rfl ?_)
      refine q_bipush rfl rfl ?_
      refine q_iand rfl rfl (q_tn (z := 0) rfl ?_)
      refine q_iret rfl rfl trivial ?_
      refine ⟨_, rfl, ?_⟩
      refine q_iadd rfl rfl (q_tn (z := 20) rfl ?_)
      refine q_lshl rfl rfl (q_tnl (z := 1048576) rfl ?_)
      refine q_lor rfl rfl (q_tnl (z := 1049601) rfl ?_)
      refine q_putf rfl rfl (by decide) rfl (by decide) rfl trivial ?_
      refine q_icc3 (z := 3) rfl rfl rfl rfl rfl ?_
      refine q_goto rfl ?_
      refine q_iload_n rfl rfl rfl ?_
      refine q_iconst rfl rfl ?_
      refine q_icge rfl rfl (fun c200 => absurd c200 (by decide)) (fun c200 => ?_)
      refine q_aload_n rfl rfl rfl ?_
      refine q_dupr rfl rfl ?_
      refine q_getf rfl rfl (by decide) rfl rfl ?_
      refine q_lconst rfl rfl ?_
      refine q_bipush rfl rfl ?_
      refine q_iload_n rfl rfl rfl ?_
      refine q_imul rfl rfl (q_tn (z := 30) rfl ?_)
      refine q_lload_n rfl rfl rfl ?_
      refine q_iload_n rfl rfl rfl ?_
      refine q_nS2 rfl rfl (Or.inl rfl) rfl rfl ⟨rfl, rfl⟩ rfl ?_
      change PQ _ _ _ mm_X0_place 0 [.long 0, pm_un, .int 3] [] _ _ 0 0 _
      refine q_lload_n rfl rfl rfl ?_
      refine q_bipush rfl rfl ?_
      refine q_iconst rfl rfl ?_
      refine q_iload_n rfl rfl rfl ?_
      refine q_imul rfl rfl (q_tn (z := 12) rfl ?_)
      refine q_iadd rfl rfl (q_tn (z := 48) rfl ?_)
      refine q_lushr rfl rfl (q_tnl (z := 0) rfl ?_)
      refine q_l2i rfl rfl (q_tn (z := 0) rfl ?_)
      refine q_bipush rfl rfl ?_
      refine q_iand rfl rfl (q_tn (z := 0) rfl ?_)
      refine q_iret rfl rfl trivial ?_
      refine ⟨_, rfl, ?_⟩
      refine q_iadd rfl rfl (q_tn (z := 30) rfl ?_)
      refine q_lshl rfl rfl (q_tnl (z := 1073741824) rfl ?_)
      refine q_lor rfl rfl (q_tnl (z := 1074791425) rfl ?_)
      refine q_putf rfl rfl (by decide) rfl (by decide) rfl trivial ?_
      refine q_icc3 (z := 4) rfl rfl rfl rfl rfl ?_
      refine q_goto rfl ?_
      refine q_iload_n rfl rfl rfl ?_
      refine q_iconst rfl rfl ?_
      refine q_icge rfl rfl (fun c201 => ?_) (fun c201 => absurd (by decide) c201)
      refine q_ret rfl rfl ?_
      refine ⟨rfl, ?_⟩
      refine q_ret rfl rfl ?_
      refine ⟨rfl, ?_⟩
      refine q_aload_n rfl rfl rfl ?_
      refine q_getf rfl rfl (by decide) rfl rfl ?_
      refine q_ifne rfl rfl (fun c202 => ?_) (fun c202 => absurd (by decide) c202)
      refine q_iload_n rfl rfl rfl ?_
      refine q_ifeq rfl rfl (fun c203 => ?_) (fun c203 => absurd (by decide) c203)
      refine q_icc3 (z := 1) rfl rfl rfl rfl rfl ?_
      refine q_goto rfl ?_
      refine q_iload_n rfl rfl rfl ?_
      refine q_sipush rfl rfl ?_
      refine q_icge rfl rfl (fun c204 => absurd c204 (by decide)) (fun c204 => ?_)
      refine q_iload_n rfl rfl rfl ?_
      refine q_aload_n rfl rfl rfl ?_
      refine q_getf rfl rfl (by decide) rfl rfl ?_
      refine q_icge rfl rfl (fun c205 => ?_) (fun c205 => absurd (by decide) c205)
      refine q_ret rfl rfl ?_
      refine ⟨rfl, ?_⟩
      refine q_aload_n rfl rfl rfl ?_
      refine q_getf rfl rfl (by decide) (FW_0 S hW) rfl ?_
      refine q_iconst rfl rfl ?_
      refine q_putf rfl rfl (by decide) rfl (by decide) rfl trivial ?_
      refine q_aload_n rfl rfl rfl ?_
      refine q_getf rfl rfl (by decide) (FW_0 S hW) rfl ?_
      refine q_iload_n rfl rfl rfl ?_
      refine q_aload_n rfl rfl rfl ?_
      refine q_getf rfl rfl (by decide) rfl rfl ?_
      refine q_ifeq rfl rfl (fun c206 => ?_) (fun c206 => absurd (by decide) c206)
      refine q_aload_n rfl rfl rfl ?_
      refine q_getf rfl rfl (by decide) rfl rfl ?_
      refine q_iast rfl rfl (by decide) rfl (by decide) ?_
      refine q_aload_n rfl rfl rfl ?_
      refine q_getf rfl rfl (by decide) (FW_0 S hW) rfl ?_
      refine q_iload_n rfl rfl rfl ?_
      refine q_aload_n rfl rfl rfl ?_
      refine q_getf rfl rfl (by decide) rfl rfl ?_
      refine q_last rfl rfl (by decide) rfl (by decide) ?_
      refine q_aload_n rfl rfl rfl ?_
      refine q_getf rfl rfl (by decide) (FW_0 S hW) rfl ?_
      refine q_iload_n rfl rfl rfl ?_
      refine q_iald rfl rfl (by decide) rfl (by decide) (q_tn (z := 1) rfl ?_)
      refine q_iret rfl rfl trivial ?_
      refine ⟨_, rfl, ?_⟩
      refine q_bipush rfl rfl ?_
      refine q_icne rfl rfl (fun c207 => absurd c207 (by decide)) (fun c207 => ?_)
      refine q_iconst rfl rfl ?_
      refine q_ior rfl rfl (q_tn (z := 0) rfl ?_)
      refine q_ist1n rfl rfl rfl rfl ?_
      refine q_icc2 (z := 3) rfl rfl rfl rfl rfl ?_
      refine q_goto rfl ?_
      refine q_iload_n rfl rfl rfl ?_
      refine q_iconst rfl rfl ?_
      refine q_icge rfl rfl (fun c208 => absurd c208 (by decide)) (fun c208 => ?_)
      refine q_iload_n rfl rfl rfl ?_
      refine q_aload_n rfl rfl rfl ?_
      refine q_iload_n rfl rfl rfl ?_
      refine q_nV1 rfl rfl (Or.inl rfl) rfl rfl rfl (by decide) (FW_0 S hW) ⟨rfl, rfl⟩ rfl ?_
      change PQ _ _ _ mm_X11_sizeOf 0 [.ref 0, .int 3, pm_un] [] _ _ 0 0 _
      refine q_aload_n rfl rfl rfl ?_
      refine q_getf rfl rfl (by decide) (FW_0 S hW) rfl ?_
      refine q_iload_n rfl rfl rfl ?_
      refine q_iald rfl rfl (by decide) rfl (by decide) (q_tn (z := 0) rfl ?_)
      refine q_ifne rfl rfl (fun c209 => ?_) (fun c209 => absurd (by decide) c209)
      refine q_iload_n rfl rfl rfl ?_
      refine q_ifne rfl rfl (fun c210 => absurd c210 (by decide)) (fun c210 => ?_)
      refine q_aload_n rfl rfl rfl ?_
      refine q_getf rfl rfl (by decide) (FW_0 S hW) rfl ?_
      refine q_ast2n rfl rfl rfl rfl ?_
      refine q_aload_n rfl rfl rfl ?_
      refine q_getf rfl rfl (by decide) (FW_0 S hW) rfl ?_
      refine q_iload_n rfl rfl rfl ?_
      refine q_putf rfl rfl (by decide) rfl (by decide) rfl trivial ?_
      refine q_aload_n rfl rfl rfl ?_
      refine q_aload_n rfl rfl rfl ?_
      refine q_getf rfl rfl (by decide) (FW_0 S hW) rfl ?_
      refine q_iconst rfl rfl ?_
      refine q_nV2v rfl rfl (Or.inl rfl) rfl rfl rfl (by decide) rfl ⟨rfl, rfl⟩ rfl ?_
      change PQ _ _ _ mm_X7_explore 0 [.ref 16, .ref 7, .int 0, pm_un] [] _ _ 0 0 _
      refine q_aload_n rfl rfl rfl ?_
      refine q_nV0v rfl rfl (Or.inl rfl) rfl rfl rfl (by decide) rfl ⟨rfl, rfl⟩ rfl ?_
      change PQ _ _ _ mm_X7_clear 0 [.ref 16, pm_un] [] _ _ 0 0 _
      refine q_iconst rfl rfl ?_
      refine q_ist1n rfl rfl rfl rfl ?_
      refine q_iload_n rfl rfl rfl ?_
      refine q_aload_n rfl rfl rfl ?_
      refine q_getf rfl rfl (by decide) rfl rfl ?_
      refine q_icge rfl rfl (fun c211 => absurd c211 (by decide)) (fun c211 => ?_)
      refine q_aload_n rfl rfl rfl ?_
      refine q_getf rfl rfl (by decide) rfl rfl ?_
      refine q_aload_n rfl rfl rfl ?_
      refine q_getf rfl rfl (by decide) rfl rfl ?_
      refine q_iload_n rfl rfl rfl ?_
      refine q_iald rfl rfl (by decide) rfl (by decide) (q_tn (z := 0) rfl ?_)
      refine q_iconst rfl rfl ?_
      refine q_iast rfl rfl (by decide) rfl (by decide) ?_
      refine q_icc1 (z := 1) rfl rfl rfl rfl rfl ?_
      refine q_goto rfl ?_
      refine q_iload_n rfl rfl rfl ?_
      refine q_aload_n rfl rfl rfl ?_
      refine q_getf rfl rfl (by decide) rfl rfl ?_
      refine q_icge rfl rfl (fun c212 => ?_) (fun c212 => absurd (by decide) c212)
      refine q_aload_n rfl rfl rfl ?_
      refine q_iconst rfl rfl ?_
      refine q_putf rfl rfl (by decide) rfl (by decide) rfl trivial ?_
      refine q_aload_n rfl rfl rfl ?_
      refine q_iconst rfl rfl ?_
      refine q_putf rfl rfl (by decide) rfl (by decide) rfl rfl ?_
      refine q_aload_n rfl rfl rfl ?_
      refine q_iconst rfl rfl ?_
      refine q_putf rfl rfl (by decide) rfl (by decide) rfl rfl ?_
      refine q_aload_n rfl rfl rfl ?_
      refine q_lconst rfl rfl ?_
      refine q_putf rfl rfl (by decide) rfl (by decide) rfl trivial ?_
      refine q_ret rfl rfl ?_
      refine ⟨rfl, ?_⟩
      refine q_aload_n rfl rfl rfl ?_
      refine q_aload_n rfl rfl rfl ?_
      refine q_nV0 rfl rfl (Or.inl rfl) rfl rfl rfl (by decide) rfl ⟨rfl, rfl⟩ rfl ?_
      change PQ _ _ _ mm_X6_first 0 [.ref 7, pm_un, pm_un, pm_un] [] _ _ 0 0 _
      refine q_lconst rfl rfl ?_
      refine q_lst1n rfl rfl rfl rfl ?_
      refine q_iconst rfl rfl ?_
      refine q_ist3n rfl rfl rfl rfl ?_
      refine q_iload_n rfl rfl rfl ?_
      refine q_iconst rfl rfl ?_
      refine q_icge rfl rfl (fun c213 => absurd c213 (by decide)) (fun c213 => ?_)
      refine q_lload_n rfl rfl rfl ?_
      refine q_iload_n rfl rfl rfl ?_
      refine q_aload_n rfl rfl rfl ?_
      refine q_getf rfl rfl (by decide) rfl rfl ?_
      refine q_getf rfl rfl (by decide) (FW_1 S hW) rfl ?_
      refine q_iload_n rfl rfl rfl ?_
      refine q_iald rfl rfl (by decide) (FW_2 S hW) (by decide) (q_tn (z := 0) rfl ?_)
      refine q_nS3 rfl rfl (Or.inl rfl) rfl rfl ⟨rfl, rfl⟩ rfl ?_
      change PQ _ _ _ mm_X0_withPlace 0 [.long 0, pm_un, .int 0, .int 0, pm_un] [] _ _ 0 0 _
      refine q_bipush rfl rfl ?_
      refine q_iconst rfl rfl ?_
      refine q_iload_n rfl rfl rfl ?_
      refine q_imul rfl rfl (q_tn (z := 0) rfl ?_)
      refine q_iadd rfl rfl (q_tn (z := 36) rfl ?_)
      refine q_ist4 rfl rfl rfl rfl ?_
      refine q_lload_n rfl rfl rfl ?_
      refine q_ldc2 rfl rfl ?_
      refine q_iload rfl rfl rfl ?_
      refine q_lshl rfl rfl (q_tnl (z := 1030792151040) rfl ?_)
      refine q_ldc2 rfl rfl ?_
      refine q_lxor rfl rfl (q_tnl (z := (-1030792151041)) rfl ?_)
      refine q_land rfl rfl (q_tnl (z := 0) rfl ?_)
      refine q_iload_n rfl rfl rfl ?_
      refine q_i2l rfl rfl (q_tnl (z := 0) rfl ?_)
      refine q_iload rfl rfl rfl ?_
      refine q_lshl rfl rfl (q_tnl (z := 0) rfl ?_)
      refine q_lor rfl rfl (q_tnl (z := 0) rfl ?_)
      refine q_lret rfl rfl trivial ?_
      refine ⟨_, rfl, ?_⟩
      refine q_lst1n rfl rfl rfl rfl ?_
      refine q_icc3 (z := 1) rfl rfl rfl rfl rfl ?_
      refine q_goto rfl ?_
      refine q_iload_n rfl rfl rfl ?_
      refine q_iconst rfl rfl ?_
      refine q_icge rfl rfl (fun c214 => absurd c214 (by decide)) (fun c214 => ?_)
      refine q_lload_n rfl rfl rfl ?_
      refine q_iload_n rfl rfl rfl ?_
      refine q_aload_n rfl rfl rfl ?_
      refine q_getf rfl rfl (by decide) rfl rfl ?_
      refine q_getf rfl rfl (by decide) (FW_1 S hW) rfl ?_
      refine q_iload_n rfl rfl rfl ?_
      refine q_iald rfl rfl (by decide) (FW_2 S hW) (by decide) (q_tn (z := 0) rfl ?_)
      refine q_nS3 rfl rfl (Or.inl rfl) rfl rfl ⟨rfl, rfl⟩ rfl ?_
      change PQ _ _ _ mm_X0_withPlace 0 [.long 0, pm_un, .int 1, .int 0, pm_un] [] _ _ 0 0 _
      refine q_bipush rfl rfl ?_
      refine q_iconst rfl rfl ?_
      refine q_iload_n rfl rfl rfl ?_
      refine q_imul rfl rfl (q_tn (z := 4) rfl ?_)
      refine q_iadd rfl rfl (q_tn (z := 40) rfl ?_)
      refine q_ist4 rfl rfl rfl rfl ?_
      refine q_lload_n rfl rfl rfl ?_
      refine q_ldc2 rfl rfl ?_
      refine q_iload rfl rfl rfl ?_
      refine q_lshl rfl rfl (q_tnl (z := 16492674416640) rfl ?_)
      refine q_ldc2 rfl rfl ?_
      refine q_lxor rfl rfl (q_tnl (z := (-16492674416641)) rfl ?_)
      refine q_land rfl rfl (q_tnl (z := 0) rfl ?_)
      refine q_iload_n rfl rfl rfl ?_
      refine q_i2l rfl rfl (q_tnl (z := 0) rfl ?_)
      refine q_iload rfl rfl rfl ?_
      refine q_lshl rfl rfl (q_tnl (z := 0) rfl ?_)
      refine q_lor rfl rfl (q_tnl (z := 0) rfl ?_)
      refine q_lret rfl rfl trivial ?_
      refine ⟨_, rfl, ?_⟩
      refine q_lst1n rfl rfl rfl rfl ?_
      refine q_icc3 (z := 2) rfl rfl rfl rfl rfl ?_
      refine q_goto rfl ?_
      refine q_iload_n rfl rfl rfl ?_
      refine q_iconst rfl rfl ?_
      refine q_icge rfl rfl (fun c215 => absurd c215 (by decide)) (fun c215 => ?_)
      refine q_lload_n rfl rfl rfl ?_
      refine q_iload_n rfl rfl rfl ?_
      refine q_aload_n rfl rfl rfl ?_
      refine q_getf rfl rfl (by decide) rfl rfl ?_
      refine q_getf rfl rfl (by decide) (FW_1 S hW) rfl ?_
      refine q_iload_n rfl rfl rfl ?_
      refine q_iald rfl rfl (by decide) (FW_2 S hW) (by decide) (q_tn (z := 0) rfl ?_)
      refine q_nS3 rfl rfl (Or.inl rfl) rfl rfl ⟨rfl, rfl⟩ rfl ?_
      change PQ _ _ _ mm_X0_withPlace 0 [.long 0, pm_un, .int 2, .int 0, pm_un] [] _ _ 0 0 _
      refine q_bipush rfl rfl ?_
      refine q_iconst rfl rfl ?_
      refine q_iload_n rfl rfl rfl ?_
      refine q_imul rfl rfl (q_tn (z := 8) rfl ?_)
      refine q_iadd rfl rfl (q_tn (z := 44) rfl ?_)
      refine q_ist4 rfl rfl rfl rfl ?_
      refine q_lload_n rfl rfl rfl ?_
      refine q_ldc2 rfl rfl ?_
      refine q_iload rfl rfl rfl ?_
      refine q_lshl rfl rfl (q_tnl (z := 263882790666240) rfl ?_)
      refine q_ldc2 rfl rfl ?_
      refine q_lxor rfl rfl (q_tnl (z := (-263882790666241)) rfl ?_)
      refine q_land rfl rfl (q_tnl (z := 0) rfl ?_)
      refine q_iload_n rfl rfl rfl ?_
      refine q_i2l rfl rfl (q_tnl (z := 0) rfl ?_)
      refine q_iload rfl rfl rfl ?_
      refine q_lshl rfl rfl (q_tnl (z := 0) rfl ?_)
      refine q_lor rfl rfl (q_tnl (z := 0) rfl ?_)
      refine q_lret rfl rfl trivial ?_
      refine ⟨_, rfl, ?_⟩
      refine q_lst1n rfl rfl rfl rfl ?_
      refine q_icc3 (z := 3) rfl rfl rfl rfl rfl ?_
      refine q_goto rfl ?_
      refine q_iload_n rfl rfl rfl ?_
      refine q_iconst rfl rfl ?_
      refine q_icge rfl rfl (fun c216 => absurd c216 (by decide)) (fun c216 => ?_)
      refine q_lload_n rfl rfl rfl ?_
      refine q_iload_n rfl rfl rfl ?_
      refine q_aload_n rfl rfl rfl ?_
      refine q_getf rfl rfl (by decide) rfl rfl ?_
      refine q_getf rfl rfl (by decide) (FW_1 S hW) rfl ?_
      refine q_iload_n rfl rfl rfl ?_
      refine q_iald rfl rfl (by decide) (FW_2 S hW) (by decide) (q_tn (z := 0) rfl ?_)
      refine q_nS3 rfl rfl (Or.inl rfl) rfl rfl ⟨rfl, rfl⟩ rfl ?_
      change PQ _ _ _ mm_X0_withPlace 0 [.long 0, pm_un, .int 3, .int 0, pm_un] [] _ _ 0 0 _
      refine q_bipush rfl rfl ?_
      refine q_iconst rfl rfl ?_
      refine q_iload_n rfl rfl rfl ?_
      refine q_imul rfl rfl (q_tn (z := 12) rfl ?_)
      refine q_iadd rfl rfl (q_tn (z := 48) rfl ?_)
      refine q_ist4 rfl rfl rfl rfl ?_
      refine q_lload_n rfl rfl rfl ?_
      refine q_ldc2 rfl rfl ?_
      refine q_iload rfl rfl rfl ?_
      refine q_lshl rfl rfl (q_tnl (z := 4222124650659840) rfl ?_)
      refine q_ldc2 rfl rfl ?_
      refine q_lxor rfl rfl (q_tnl (z := (-4222124650659841)) rfl ?_)
      refine q_land rfl rfl (q_tnl (z := 0) rfl ?_)
      refine q_iload_n rfl rfl rfl ?_
      refine q_i2l rfl rfl (q_tnl (z := 0) rfl ?_)
      refine q_iload rfl rfl rfl ?_
      refine q_lshl rfl rfl (q_tnl (z := 0) rfl ?_)
      refine q_lor rfl rfl (q_tnl (z := 0) rfl ?_)
      refine q_lret rfl rfl trivial ?_
      refine ⟨_, rfl, ?_⟩
      refine q_lst1n rfl rfl rfl rfl ?_
      refine q_icc3 (z := 4) rfl rfl rfl rfl rfl ?_
      refine q_goto rfl ?_
      refine q_iload_n rfl rfl rfl ?_
      refine q_iconst rfl rfl ?_
      refine q_icge rfl rfl (fun c217 => ?_) (fun c217 => absurd (by decide) c217)
      refine q_lload_n rfl rfl rfl ?_
      refine q_lret rfl rfl trivial ?_
      refine ⟨_, rfl, ?_⟩
      refine q_iconst rfl rfl ?_
      refine q_iconst rfl rfl ?_
      refine q_nV3 rfl rfl (Or.inl rfl) rfl rfl rfl (by decide) rfl ⟨rfl, rfl⟩ rfl ?_
      change PQ _ _ _ mm_X7_numberOf 0 [.ref 16, .long 0, pm_un, .int (-1), .int (-1), pm_un, pm_un, pm_un] [] _ _ 0 0 _
      refine q_lload_n rfl rfl rfl ?_
      refine q_ldc2 rfl rfl ?_
      refine q_lmul rfl rfl (q_tnl (z := 0) rfl ?_)
      refine q_bipush rfl rfl ?_
      refine q_lushr rfl rfl (q_tnl (z := 0) rfl ?_)
      refine q_l2i rfl rfl (q_tn (z := 0) rfl ?_)
      refine q_sipush rfl rfl ?_
      refine q_iand rfl rfl (q_tn (z := 0) rfl ?_)
      refine q_ist5 rfl rfl rfl rfl ?_
      refine q_iconst rfl rfl ?_
      refine q_ist6 rfl rfl rfl rfl ?_
      refine q_iload rfl rfl rfl ?_
      refine q_sipush rfl rfl ?_
      refine q_icge rfl rfl (fun c218 => absurd c218 (by decide)) (fun c218 => ?_)
      refine q_aload_n rfl rfl rfl ?_
      refine q_getf rfl rfl (by decide) rfl rfl ?_
      refine q_iload rfl rfl rfl ?_
      refine q_iald rfl rfl (by decide) rfl (by decide) (q_tn (z := 0) rfl ?_)
      refine q_iconst rfl rfl ?_
      refine q_isub rfl rfl (q_tn (z := (-1)) rfl ?_)
      refine q_ist7 rfl rfl rfl rfl ?_
      refine q_iload rfl rfl rfl ?_
      refine q_ifge rfl rfl (fun c219 => absurd c219 (by decide)) (fun c219 => ?_)
      refine q_aload_n rfl rfl rfl ?_
      refine q_lload_n rfl rfl rfl ?_
      refine q_iload rfl rfl rfl ?_
      refine q_iload_n rfl rfl rfl ?_
      refine q_iload rfl rfl rfl ?_
      refine q_nV4 rfl rfl (Or.inl rfl) rfl rfl rfl (by decide) rfl ⟨rfl, rfl⟩ rfl ?_
      change PQ _ _ _ mm_X7_newNumber 0 [.ref 16, .long 0, pm_un, .int 0, .int (-1), .int (-1), pm_un] [] _ _ 0 0 _
      refine q_aload_n rfl rfl rfl ?_
      refine q_getf rfl rfl (by decide) rfl rfl ?_
      refine q_sipush rfl rfl ?_
      refine q_iclt rfl rfl (fun c220 => ?_) (fun c220 => absurd (by decide) c220)
      refine q_aload_n rfl rfl rfl ?_
      refine q_dupr rfl rfl ?_
      refine q_getf rfl rfl (by decide) rfl rfl ?_
      refine q_dupx1 rfl rfl ?_
      refine q_iconst rfl rfl ?_
      refine q_iadd rfl rfl (q_tn (z := 1) rfl ?_)
      refine q_putf rfl rfl (by decide) rfl (by decide) rfl trivial ?_
      refine q_ist6 rfl rfl rfl rfl ?_
      refine q_aload_n rfl rfl rfl ?_
      refine q_getf rfl rfl (by decide) rfl rfl ?_
      refine q_iload rfl rfl rfl ?_
      refine q_lload_n rfl rfl rfl ?_
      refine q_last rfl rfl (by decide) rfl (by decide) ?_
      refine q_aload_n rfl rfl rfl ?_
      refine q_getf rfl rfl (by decide) rfl rfl ?_
      refine q_iload rfl rfl rfl ?_
      refine q_iload rfl rfl rfl ?_
      refine q_iast rfl rfl (by decide) rfl (by decide) ?_
      refine q_aload_n rfl rfl rfl ?_
      refine q_getf rfl rfl (by decide) rfl rfl ?_
      refine q_iload rfl rfl rfl ?_
      refine q_iload rfl rfl rfl ?_
      refine q_iast rfl rfl (by decide) rfl (by decide) ?_
      refine q_aload_n rfl rfl rfl ?_
      refine q_getf rfl rfl (by decide) rfl rfl ?_
      refine q_iload rfl rfl rfl ?_
      refine q_iload_n rfl rfl rfl ?_
      refine q_iast rfl rfl (by decide) rfl (by decide) ?_
      refine q_aload_n rfl rfl rfl ?_
      refine q_getf rfl rfl (by decide) rfl rfl ?_
      refine q_iload_n rfl rfl rfl ?_
      refine q_iload rfl rfl rfl ?_
      refine q_iconst rfl rfl ?_
      refine q_iadd rfl rfl (q_tn (z := 1) rfl ?_)
      refine q_iast rfl rfl (by decide) rfl (by decide) ?_
      refine q_iload rfl rfl rfl ?_
      refine q_iret rfl rfl trivial ?_
      refine ⟨_, rfl, ?_⟩
      refine q_iret rfl rfl trivial ?_
      refine ⟨_, rfl, ?_⟩
      refine q_pop rfl rfl ?_
      refine q_iconst rfl rfl ?_
      refine q_ist3n rfl rfl rfl rfl ?_
      refine q_iload_n rfl rfl rfl ?_
      refine q_sipush rfl rfl ?_
      refine q_icge rfl rfl (fun c221 => absurd c221 (by decide)) (fun c221 => ?_)
      refine q_iload_n rfl rfl rfl ?_
      refine q_aload_n rfl rfl rfl ?_
      refine q_getf rfl rfl (by decide) rfl rfl ?_
      refine q_icge rfl rfl (fun c222 => absurd c222 (by decide)) (fun c222 => ?_)
      refine q_aload_n rfl rfl rfl ?_
      refine q_aload_n rfl rfl rfl ?_
      refine q_iload_n rfl rfl rfl ?_
      refine q_nV2v rfl rfl (Or.inl rfl) rfl rfl rfl (by decide) rfl ⟨rfl, rfl⟩ rfl ?_
      change PQ _ _ _ mm_X7_lookAt 0 [.ref 16, .ref 7, .int 0, pm_un, pm_un, pm_un, pm_un, pm_un, pm_un, pm_un] [] _ _ 0 0 _
      refine q_aload_n rfl rfl rfl ?_
      refine q_getf rfl rfl (by decide) rfl rfl ?_
      refine q_iload_n rfl rfl rfl ?_
      refine q_lald rfl rfl (by decide) rfl (by decide) (q_tnl (z := 0) rfl ?_)
      refine q_lst3n rfl rfl rfl rfl ?_
      refine q_aload_n rfl rfl rfl ?_
      refine q_aload_n rfl rfl rfl ?_
      refine q_lload_n rfl rfl rfl ?_
      refine q_nV1 rfl rfl (Or.inl rfl) rfl rfl rfl (by decide) rfl ⟨rfl, rfl⟩ rfl ?_
      change PQ _ _ _ mm_X6_ableHands 0 [.ref 7, .long 0, pm_un, pm_un, pm_un, pm_un] [] _ _ 0 0 _
      refine q_aload_n rfl rfl rfl ?_
      refine q_lload_n rfl rfl rfl ?_
      refine q_nV1 rfl rfl (Or.inl rfl) rfl rfl rfl (by decide) rfl ⟨rfl, rfl⟩ rfl ?_
      change PQ _ _ _ mm_X6_allMeet 0 [.ref 7, .long 0, pm_un, pm_un, pm_un] [] _ _ 0 0 _
      refine q_iconst rfl rfl ?_
      refine q_ist3n rfl rfl rfl rfl ?_
      refine q_iload_n rfl rfl rfl ?_
      refine q_aload_n rfl rfl rfl ?_
      refine q_getf rfl rfl (by decide) rfl rfl ?_
      refine q_getf rfl rfl (by decide) (FW_1 S hW) rfl ?_
      refine q_icge rfl rfl (fun c223 => absurd c223 (by decide)) (fun c223 => ?_)
      refine q_aload_n rfl rfl rfl ?_
      refine q_getf rfl rfl (by decide) rfl rfl ?_
      refine q_iload_n rfl rfl rfl ?_
      refine q_lload_n rfl rfl rfl ?_
      refine q_iload_n rfl rfl rfl ?_
      refine q_nS2 rfl rfl (Or.inl rfl) rfl rfl ⟨rfl, rfl⟩ rfl ?_
      change PQ _ _ _ mm_X0_position 0 [.long 0, pm_un, .int 0] [] _ _ 0 0 _
      refine q_lload_n rfl rfl rfl ?_
      refine q_bipush rfl rfl ?_
      refine q_iload_n rfl rfl rfl ?_
      refine q_imul rfl rfl (q_tn (z := 0) rfl ?_)
      refine q_lushr rfl rfl (q_tnl (z := 0) rfl ?_)
      refine q_l2i rfl rfl (q_tn (z := 0) rfl ?_)
      refine q_bipush rfl rfl ?_
      refine q_iand rfl rfl (q_tn (z := 0) rfl ?_)
      refine q_iret rfl rfl trivial ?_
      refine ⟨_, rfl, ?_⟩
      refine q_nV2 rfl rfl (Or.inl rfl) rfl rfl rfl (by decide) (FW_1 S hW) ⟨rfl, rfl⟩ rfl ?_
      change PQ _ _ _ mm_X8_cellOf 0 [.ref 1, .int 0, .int 0, pm_un] [] _ _ 0 0 _
      refine q_iload_n rfl rfl rfl ?_
      refine q_iflt rfl rfl (fun c224 => absurd c224 (by decide)) (fun c224 => ?_)
      refine q_iload_n rfl rfl rfl ?_
      refine q_aload_n rfl rfl rfl ?_
      refine q_getf rfl rfl (by decide) (FW_1 S hW) rfl ?_
      refine q_icge rfl rfl (fun c225 => absurd c225 (by decide)) (fun c225 => ?_)
      refine q_iload_n rfl rfl rfl ?_
      refine q_iflt rfl rfl (fun c226 => absurd c226 (by decide)) (fun c226 => ?_)
      refine q_iload_n rfl rfl rfl ?_
      refine q_aload_n rfl rfl rfl ?_
      refine q_getf rfl rfl (by decide) (FW_1 S hW) rfl ?_
      refine q_iload_n rfl rfl rfl ?_
      refine q_iald rfl rfl (by decide) (FW_3 S hW) (by decide) (q_tn (z := 0) rfl ?_)
      refine q_icge rfl rfl (fun c227 => ?_) (fun c227 => absurd (by decide) c227)
      refine q_iconst rfl rfl ?_
      refine q_ist3n rfl rfl rfl rfl ?_
      refine q_iload_n rfl rfl rfl ?_
      refine q_ifeq rfl rfl (fun c228 => ?_) (fun c228 => absurd (by decide) c228)
      refine q_iconst rfl rfl ?_
      refine q_iret rfl rfl trivial ?_
      refine ⟨_, rfl, ?_⟩
      refine q_ist4 rfl rfl rfl rfl ?_
      refine q_iload rfl rfl rfl ?_
      refine q_iflt rfl rfl (fun c229 => ?_) (fun c229 => absurd (by decide) c229)
      refine q_icc3 (z := 1) rfl rfl rfl rfl rfl ?_
      refine q_goto rfl ?_
      refine q_iload_n rfl rfl rfl ?_
      refine q_aload_n rfl rfl rfl ?_
      refine q_getf rfl rfl (by decide) rfl rfl ?_
      refine q_getf rfl rfl (by decide) (FW_1 S hW) rfl ?_
      refine q_icge rfl rfl (fun c230 => ?_) (fun c230 => absurd (by decide) c230)
      refine q_iconst rfl rfl ?_
      refine q_iret rfl rfl rfl ?_
      refine ⟨_, rfl, ?_⟩
      refine q_ist3n rfl rfl rfl rfl ?_
      refine q_iconst rfl rfl ?_
      refine q_ist4 rfl rfl rfl rfl ?_
      refine q_iconst rfl rfl ?_
      refine q_ist5 rfl rfl rfl rfl ?_
      refine q_iload rfl rfl rfl ?_
      refine q_aload_n rfl rfl rfl ?_
      refine q_getf rfl rfl (by decide) rfl rfl ?_
      refine q_getf rfl rfl (by decide) (FW_1 S hW) rfl ?_
      refine q_icge rfl rfl (fun c231 => absurd c231 (by decide)) (fun c231 => ?_)
      refine q_aload_n rfl rfl rfl ?_
      refine q_lload_n rfl rfl rfl ?_
      refine q_iload rfl rfl rfl ?_
      refine q_iload_n rfl rfl rfl ?_
      refine q_nV3 rfl rfl (Or.inl rfl) rfl rfl rfl (by decide) rfl ⟨rfl, rfl⟩ rfl ?_
      change PQ _ _ _ mm_X6_isAble 0 [.ref 7, .long 0, pm_un, .int 0, .int 1, pm_un, pm_un, pm_un] [] _ _ 0 0 _
      refine q_aload_n rfl rfl rfl ?_
      refine q_getf rfl rfl (by decide) rfl rfl ?_
      refine q_iload_n rfl rfl rfl ?_
      refine q_lload_n rfl rfl rfl ?_
      refine q_iload_n rfl rfl rfl ?_
      refine q_nS2 rfl rfl (Or.inl rfl) rfl rfl ⟨rfl, rfl⟩ rfl ?_
      change PQ _ _ _ mm_X0_position 0 [.long 0, pm_un, .int 0] [] _ _ 0 0 _
      refine q_lload_n rfl rfl rfl ?_
      refine q_bipush rfl rfl ?_
      refine q_iload_n rfl rfl rfl ?_
      refine q_imul rfl rfl (q_tn (z := 0) rfl ?_)
      refine q_lushr rfl rfl (q_tnl (z := 0) rfl ?_)
      refine q_l2i rfl rfl (q_tn (z := 0) rfl ?_)
      refine q_bipush rfl rfl ?_
      refine q_iand rfl rfl (q_tn (z := 0) rfl ?_)
      refine q_iret rfl rfl trivial ?_
      refine ⟨_, rfl, ?_⟩
      refine q_nV2 rfl rfl (Or.inl rfl) rfl rfl rfl (by decide) (FW_1 S hW) ⟨rfl, rfl⟩ rfl ?_
      change PQ _ _ _ mm_X8_cellOf 0 [.ref 1, .int 0, .int 0, pm_un] [] _ _ 0 0 _
      refine q_iload_n rfl rfl rfl ?_
      refine q_iflt rfl rfl (fun c232 => absurd c232 (by decide)) (fun c232 => ?_)
      refine q_iload_n rfl rfl rfl ?_
      refine q_aload_n rfl rfl rfl ?_
      refine q_getf rfl rfl (by decide) (FW_1 S hW) rfl ?_
      refine q_icge rfl rfl (fun c233 => absurd c233 (by decide)) (fun c233 => ?_)
      refine q_iload_n rfl rfl rfl ?_
      refine q_iflt rfl rfl (fun c234 => absurd c234 (by decide)) (fun c234 => ?_)
      refine q_iload_n rfl rfl rfl ?_
      refine q_aload_n rfl rfl rfl ?_
      refine q_getf rfl rfl (by decide) (FW_1 S hW) rfl ?_
      refine q_iload_n rfl rfl rfl ?_
      refine q_iald rfl rfl (by decide) (FW_3 S hW) (by decide) (q_tn (z := 0) rfl ?_)
      refine q_icge rfl rfl (fun c235 => ?_) (fun c235 => absurd (by decide) c235)
      refine q_iconst rfl rfl ?_
      refine q_ist3n rfl rfl rfl rfl ?_
      refine q_iload_n rfl rfl rfl ?_
      refine q_ifeq rfl rfl (fun c236 => ?_) (fun c236 => absurd (by decide) c236)
      refine q_iconst rfl rfl ?_
      refine q_iret rfl rfl trivial ?_
      refine ⟨_, rfl, ?_⟩
      refine q_ist5 rfl rfl rfl rfl ?_
      refine q_iload rfl rfl rfl ?_
      refine q_ifge rfl rfl (fun c237 => absurd c237 (by decide)) (fun c237 => ?_)
      refine q_iconst rfl rfl ?_
      refine q_iret rfl rfl rfl ?_
      refine ⟨_, rfl, ?_⟩
      refine q_ifeq rfl rfl (fun c238 => ?_) (fun c238 => absurd (by decide) c238)
      refine q_icc5 (z := 1) rfl rfl rfl rfl rfl ?_
      refine q_goto rfl ?_
      refine q_iload rfl rfl rfl ?_
      refine q_aload_n rfl rfl rfl ?_
      refine q_getf rfl rfl (by decide) rfl rfl ?_
      refine q_getf rfl rfl (by decide) (FW_1 S hW) rfl ?_
      refine q_icge rfl rfl (fun c239 => ?_) (fun c239 => absurd (by decide) c239)
      refine q_iload rfl rfl rfl ?_
      refine q_iret rfl rfl trivial ?_
      refine ⟨_, rfl, ?_⟩
      refine q_lload_n rfl rfl rfl ?_
      refine q_nS1 rfl rfl (Or.inl rfl) rfl rfl ⟨rfl, rfl⟩ rfl ?_
      change PQ _ _ _ mm_X0_last 0 [.long 0, pm_un] [] _ _ 0 0 _
      refine q_lload_n rfl rfl rfl ?_
      refine q_bipush rfl rfl ?_
      refine q_lushr rfl rfl (q_tnl (z := 0) rfl ?_)
      refine q_l2i rfl rfl (q_tn (z := 0) rfl ?_)
      refine q_iconst rfl rfl ?_
      refine q_iand rfl rfl (q_tn (z := 0) rfl ?_)
      refine q_iconst rfl rfl ?_
      refine q_isub rfl rfl (q_tn (z := (-1)) rfl ?_)
      refine q_iret rfl rfl trivial ?_
      refine ⟨_, rfl, ?_⟩
      refine q_nV2 rfl rfl (Or.inl rfl) rfl rfl rfl (by decide) rfl ⟨rfl, rfl⟩ rfl ?_
      change PQ _ _ _ mm_X6_chosenHands 0 [.ref 7, .int 0, .int (-1), pm_un, pm_un] [] _ _ 0 0 _
      refine q_aload_n rfl rfl rfl ?_
      refine q_getf rfl rfl (by decide) rfl rfl ?_
      refine q_iconst rfl rfl ?_
      refine q_icne rfl rfl (fun c240 => absurd c240 (by decide)) (fun c240 => ?_)
      refine q_aload_n rfl rfl rfl ?_
      refine q_getf rfl rfl (by decide) rfl rfl ?_
      refine q_iconst rfl rfl ?_
      refine q_iceq rfl rfl (fun c241 => absurd c241 (by decide)) (fun c241 => ?_)
      refine q_iload_n rfl rfl rfl ?_
      refine q_iret rfl rfl trivial ?_
      refine ⟨_, rfl, ?_⟩
      refine q_ist5 rfl rfl rfl rfl ?_
      refine q_iconst rfl rfl ?_
      refine q_ist6 rfl rfl rfl rfl ?_
      refine q_iload rfl rfl rfl ?_
      refine q_iconst rfl rfl ?_
      refine q_icge rfl rfl (fun c242 => absurd c242 (by decide)) (fun c242 => ?_)
      refine q_iconst rfl rfl ?_
      refine q_ist7 rfl rfl rfl rfl ?_
      refine q_iload rfl rfl rfl ?_
      refine q_iload rfl rfl rfl ?_
      refine q_iushr rfl rfl (q_tn (z := 0) rfl ?_)
      refine q_iconst rfl rfl ?_
      refine q_iand rfl rfl (q_tn (z := 0) rfl ?_)
      refine q_ifeq rfl rfl (fun c243 => ?_) (fun c243 => absurd (by decide) c243)
      refine q_aload_n rfl rfl rfl ?_
      refine q_getf rfl rfl (by decide) rfl rfl ?_
      refine q_iload_n rfl rfl rfl ?_
      refine q_iconst rfl rfl ?_
      refine q_imul rfl rfl (q_tn (z := 0) rfl ?_)
      refine q_iload rfl rfl rfl ?_
      refine q_iadd rfl rfl (q_tn (z := 0) rfl ?_)
      refine q_iload rfl rfl rfl ?_
      refine q_iast rfl rfl (by decide) rfl (by decide) ?_
      refine q_icc6 (z := 1) rfl rfl rfl rfl rfl ?_
      refine q_goto rfl ?_
      refine q_iload rfl rfl rfl ?_
      refine q_iconst rfl rfl ?_
      refine q_icge rfl rfl (fun c244 => absurd c244 (by decide)) (fun c244 => ?_)
      refine q_iconst rfl rfl ?_
      refine q_ist7 rfl rfl rfl rfl ?_
      refine q_iload rfl rfl rfl ?_
      refine q_iload rfl rfl rfl ?_
      refine q_iushr rfl rfl (q_tn (z := 0) rfl ?_)
      refine q_iconst rfl rfl ?_
      refine q_iand rfl rfl (q_tn (z := 0) rfl ?_)
      refine q_ifeq rfl rfl (fun c245 => ?_) (fun c245 => absurd (by decide) c245)
      refine q_aload_n rfl rfl rfl ?_
      refine q_getf rfl rfl (by decide) rfl rfl ?_
      refine q_iload_n rfl rfl rfl ?_
      refine q_iconst rfl rfl ?_
      refine q_imul rfl rfl (q_tn (z := 0) rfl ?_)
      refine q_iload rfl rfl rfl ?_
      refine q_iadd rfl rfl (q_tn (z := 1) rfl ?_)
      refine q_iload rfl rfl rfl ?_
      refine q_iast rfl rfl (by decide) rfl (by decide) ?_
      refine q_icc6 (z := 2) rfl rfl rfl rfl rfl ?_
      refine q_goto rfl ?_
      refine q_iload rfl rfl rfl ?_
      refine q_iconst rfl rfl ?_
      refine q_icge rfl rfl (fun c246 => absurd c246 (by decide)) (fun c246 => ?_)
      refine q_iconst rfl rfl ?_
      refine q_ist7 rfl rfl rfl rfl ?_
      refine q_iload rfl rfl rfl ?_
      refine q_iload rfl rfl rfl ?_
      refine q_iushr rfl rfl (q_tn (z := 0) rfl ?_)
      refine q_iconst rfl rfl ?_
      refine q_iand rfl rfl (q_tn (z := 0) rfl ?_)
      refine q_ifeq rfl rfl (fun c247 => ?_) (fun c247 => absurd (by decide) c247)
      refine q_aload_n rfl rfl rfl ?_
      refine q_getf rfl rfl (by decide) rfl rfl ?_
      refine q_iload_n rfl rfl rfl ?_
      refine q_iconst rfl rfl ?_
      refine q_imul rfl rfl (q_tn (z := 0) rfl ?_)
      refine q_iload rfl rfl rfl ?_
      refine q_iadd rfl rfl (q_tn (z := 2) rfl ?_)
      refine q_iload rfl rfl rfl ?_
      refine q_iast rfl rfl (by decide) rfl (by decide) ?_
      refine q_icc6 (z := 3) rfl rfl rfl rfl rfl ?_
      refine q_goto rfl ?_
      refine q_iload rfl rfl rfl ?_
      refine q_iconst rfl rfl ?_
      refine q_icge rfl rfl (fun c248 => ?_) (fun c248 => absurd (by decide) c248)
      refine q_aload_n rfl rfl rfl ?_
      refine q_getf rfl rfl (by decide) rfl rfl ?_
      refine q_iload_n rfl rfl rfl ?_
      refine q_iload rfl rfl rfl ?_
      refine q_ifeq rfl rfl (fun c249 => ?_) (fun c249 => absurd (by decide) c249)
      refine q_aload_n rfl rfl rfl ?_
      refine q_lload_n rfl rfl rfl ?_
      refine q_nV1 rfl rfl (Or.inl rfl) rfl rfl rfl (by decide) rfl ⟨rfl, rfl⟩ rfl ?_
      change PQ _ _ _ mm_X6_isEnd 0 [.ref 7, .long 0, pm_un, pm_un] [] _ _ 0 0 _
      refine q_iconst rfl rfl ?_
      refine q_ist3n rfl rfl rfl rfl ?_
      refine q_iload_n rfl rfl rfl ?_
      refine q_aload_n rfl rfl rfl ?_
      refine q_getf rfl rfl (by decide) rfl rfl ?_
      refine q_getf rfl rfl (by decide) (FW_1 S hW) rfl ?_
      refine q_icge rfl rfl (fun c250 => absurd c250 (by decide)) (fun c250 => ?_)
      refine q_aload_n rfl rfl rfl ?_
      refine q_getf rfl rfl (by decide) rfl rfl ?_
      refine q_iload_n rfl rfl rfl ?_
      refine q_lload_n rfl rfl rfl ?_
      refine q_iload_n rfl rfl rfl ?_
      refine q_nS2 rfl rfl (Or.inl rfl) rfl rfl ⟨rfl, rfl⟩ rfl ?_
      change PQ _ _ _ mm_X0_position 0 [.long 0, pm_un, .int 0] [] _ _ 0 0 _
      refine q_lload_n rfl rfl rfl ?_
      refine q_bipush rfl rfl ?_
      refine q_iload_n rfl rfl rfl ?_
      refine q_imul rfl rfl (q_tn (z := 0) rfl ?_)
      refine q_lushr rfl rfl (q_tnl (z := 0) rfl ?_)
      refine q_l2i rfl rfl (q_tn (z := 0) rfl ?_)
      refine q_bipush rfl rfl ?_
      refine q_iand rfl rfl (q_tn (z := 0) rfl ?_)
      refine q_iret rfl rfl trivial ?_
      refine ⟨_, rfl, ?_⟩
      refine q_nV2 rfl rfl (Or.inl rfl) rfl rfl rfl (by decide) (FW_1 S hW) ⟨rfl, rfl⟩ rfl ?_
      change PQ _ _ _ mm_X8_cellOf 0 [.ref 1, .int 0, .int 0, pm_un] [] _ _ 0 0 _
      refine q_iload_n rfl rfl rfl ?_
      refine q_iflt rfl rfl (fun c251 => absurd c251 (by decide)) (fun c251 => ?_)
      refine q_iload_n rfl rfl rfl ?_
      refine q_aload_n rfl rfl rfl ?_
      refine q_getf rfl rfl (by decide) (FW_1 S hW) rfl ?_
      refine q_icge rfl rfl (fun c252 => absurd c252 (by decide)) (fun c252 => ?_)
      refine q_iload_n rfl rfl rfl ?_
      refine q_iflt rfl rfl (fun c253 => absurd c253 (by decide)) (fun c253 => ?_)
      refine q_iload_n rfl rfl rfl ?_
      refine q_aload_n rfl rfl rfl ?_
      refine q_getf rfl rfl (by decide) (FW_1 S hW) rfl ?_
      refine q_iload_n rfl rfl rfl ?_
      refine q_iald rfl rfl (by decide) (FW_3 S hW) (by decide) (q_tn (z := 0) rfl ?_)
      refine q_icge rfl rfl (fun c254 => ?_) (fun c254 => absurd (by decide) c254)
      refine q_iconst rfl rfl ?_
      refine q_ist3n rfl rfl rfl rfl ?_
      refine q_iload_n rfl rfl rfl ?_
      refine q_ifeq rfl rfl (fun c255 => ?_) (fun c255 => absurd (by decide) c255)
      refine q_iconst rfl rfl ?_
      refine q_iret rfl rfl trivial ?_
      refine ⟨_, rfl, ?_⟩
      refine q_iflt rfl rfl (fun c256 => ?_) (fun c256 => absurd (by decide) c256)
      refine q_icc3 (z := 1) rfl rfl rfl rfl rfl ?_
      refine q_goto rfl ?_
      refine q_iload_n rfl rfl rfl ?_
      refine q_aload_n rfl rfl rfl ?_
      refine q_getf rfl rfl (by decide) rfl rfl ?_
      refine q_getf rfl rfl (by decide) (FW_1 S hW) rfl ?_
      refine q_icge rfl rfl (fun c257 => ?_) (fun c257 => absurd (by decide) c257)
      refine q_iconst rfl rfl ?_
      refine q_iret rfl rfl rfl ?_
      refine ⟨_, rfl, ?_⟩
      refine q_ifeq rfl rfl (fun c258 => absurd c258 (by decide)) (fun c258 => ?_)
      refine q_iconst rfl rfl ?_
      refine q_goto rfl ?_
      refine q_iast rfl rfl (by decide) rfl (by decide) ?_
      refine q_aload_n rfl rfl rfl ?_
      refine q_dupr rfl rfl ?_
      refine q_getf rfl rfl (by decide) rfl rfl ?_
      refine q_aload_n rfl rfl rfl ?_
      refine q_getf rfl rfl (by decide) rfl rfl ?_
      refine q_iload_n rfl rfl rfl ?_
      refine q_iald rfl rfl (by decide) rfl (by decide) (q_tn (z := 1) rfl ?_)
      refine q_iconst rfl rfl ?_
      refine q_iceq rfl rfl (fun c259 => absurd c259 (by decide)) (fun c259 => ?_)
      refine q_aload_n rfl rfl rfl ?_
      refine q_lload_n rfl rfl rfl ?_
      refine q_nV1 rfl rfl (Or.inl rfl) rfl rfl rfl (by decide) rfl ⟨rfl, rfl⟩ rfl ?_
      change PQ _ _ _ mm_X6_someFailed 0 [.ref 7, .long 0, pm_un, pm_un] [] _ _ 0 0 _
      refine q_iconst rfl rfl ?_
      refine q_ist3n rfl rfl rfl rfl ?_
      refine q_iload_n rfl rfl rfl ?_
      refine q_aload_n rfl rfl rfl ?_
      refine q_getf rfl rfl (by decide) rfl rfl ?_
      refine q_getf rfl rfl (by decide) (FW_1 S hW) rfl ?_
      refine q_icge rfl rfl (fun c260 => absurd c260 (by decide)) (fun c260 => ?_)
      refine q_lload_n rfl rfl rfl ?_
      refine q_iload_n rfl rfl rfl ?_
      refine q_nS2 rfl rfl (Or.inl rfl) rfl rfl ⟨rfl, rfl⟩ rfl ?_
      change PQ _ _ _ mm_X0_position 0 [.long 0, pm_un, .int 0] [] _ _ 0 0 _
      refine q_lload_n rfl rfl rfl ?_
      refine q_bipush rfl rfl ?_
      refine q_iload_n rfl rfl rfl ?_
      refine q_imul rfl rfl (q_tn (z := 0) rfl ?_)
      refine q_lushr rfl rfl (q_tnl (z := 0) rfl ?_)
      refine q_l2i rfl rfl (q_tn (z := 0) rfl ?_)
      refine q_bipush rfl rfl ?_
      refine q_iand rfl rfl (q_tn (z := 0) rfl ?_)
      refine q_iret rfl rfl trivial ?_
      refine ⟨_, rfl, ?_⟩
      refine q_bipush rfl rfl ?_
      refine q_icne rfl rfl (fun c261 => absurd c261 (by decide)) (fun c261 => ?_)
      refine q_icc3 (z := 1) rfl rfl rfl rfl rfl ?_
      refine q_goto rfl ?_
      refine q_iload_n rfl rfl rfl ?_
      refine q_aload_n rfl rfl rfl ?_
      refine q_getf rfl rfl (by decide) rfl rfl ?_
      refine q_getf rfl rfl (by decide) (FW_1 S hW) rfl ?_
      refine q_icge rfl rfl (fun c262 => ?_) (fun c262 => absurd (by decide) c262)
      refine q_iconst rfl rfl ?_
      refine q_iret rfl rfl rfl ?_
      refine ⟨_, rfl, ?_⟩
      refine q_ifeq rfl rfl (fun c263 => ?_) (fun c263 => absurd (by decide) c263)
      refine q_iconst rfl rfl ?_
      refine q_ior rfl rfl (q_tn (z := 0) rfl ?_)
      refine q_putf rfl rfl (by decide) rfl (by decide) rfl rfl ?_
      refine q_aload_n rfl rfl rfl ?_
      refine q_getf rfl rfl (by decide) rfl rfl ?_
      refine q_iload_n rfl rfl rfl ?_
      refine q_iald rfl rfl (by decide) rfl (by decide) (q_tn (z := 1) rfl ?_)
      refine q_iconst rfl rfl ?_
      refine q_icne rfl rfl (fun c264 => ?_) (fun c264 => absurd (by decide) c264)
      refine q_aload_n rfl rfl rfl ?_
      refine q_lload_n rfl rfl rfl ?_
      refine q_nV1v rfl rfl (Or.inl rfl) rfl rfl rfl (by decide) rfl ⟨rfl, rfl⟩ rfl ?_
      change PQ _ _ _ mm_X7_noteEnd 0 [.ref 16, .long 0, pm_un, pm_un] [] _ _ 0 0 _
      refine q_iconst rfl rfl ?_
      refine q_ist3n rfl rfl rfl rfl ?_
      refine q_iload_n rfl rfl rfl ?_
      refine q_iconst rfl rfl ?_
      refine q_icge rfl rfl (fun c265 => absurd c265 (by decide)) (fun c265 => ?_)
      refine q_aload_n rfl rfl rfl ?_
      refine q_dupr rfl rfl ?_
      refine q_getf rfl rfl (by decide) rfl rfl ?_
      refine q_lconst rfl rfl ?_
      refine q_bipush rfl rfl ?_
      refine q_iload_n rfl rfl rfl ?_
      refine q_imul rfl rfl (q_tn (z := 0) rfl ?_)
      refine q_lload_n rfl rfl rfl ?_
      refine q_iload_n rfl rfl rfl ?_
      refine q_nS2 rfl rfl (Or.inl rfl) rfl rfl ⟨rfl, rfl⟩ rfl ?_
      change PQ _ _ _ mm_X0_place 0 [.long 0, pm_un, .int 0] [] _ _ 0 0 _
      refine q_lload_n rfl rfl rfl ?_
      refine q_bipush rfl rfl ?_
      refine q_iconst rfl rfl ?_
      refine q_iload_n rfl rfl rfl ?_
      refine q_imul rfl rfl (q_tn (z := 0) rfl ?_)
      refine q_iadd rfl rfl (q_tn (z := 36) rfl ?_)
      refine q_lushr rfl rfl (q_tnl (z := 0) rfl ?_)
      refine q_l2i rfl rfl (q_tn (z := 0) rfl ?_)
      refine q_bipush rfl rfl ?_
      refine q_iand rfl rfl (q_tn (z := 0) rfl ?_)
      refine q_iret rfl rfl trivial ?_
      refine ⟨_, rfl, ?_⟩
      refine q_iadd rfl rfl (q_tn (z := 0) rfl ?_)
      refine q_lshl rfl rfl (q_tnl (z := 1) rfl ?_)
      refine q_lor rfl rfl (q_tnl (z := 1) rfl ?_)
      refine q_putf rfl rfl (by decide) rfl (by decide) rfl trivial ?_
      refine q_icc3 (z := 1) rfl rfl rfl rfl rfl ?_
      refine q_goto rfl ?_
      refine q_iload_n rfl rfl rfl ?_
      refine q_iconst rfl rfl ?_
      refine q_icge rfl rfl (fun c266 => absurd c266 (by decide)) (fun c266 => ?_)
      refine q_aload_n rfl rfl rfl ?_
      refine q_dupr rfl rfl ?_
      refine q_getf rfl rfl (by decide) rfl rfl ?_
      refine q_lconst rfl rfl ?_
      refine q_bipush rfl rfl ?_
      refine q_iload_n rfl rfl rfl ?_
      refine q_imul rfl rfl (q_tn (z := 10) rfl ?_)
      refine q_lload_n rfl rfl rfl ?_
      refine q_iload_n rfl rfl rfl ?_
      refine q_nS2 rfl rfl (Or.inl rfl) rfl rfl ⟨rfl, rfl⟩ rfl ?_
      change PQ _ _ _ mm_X0_place 0 [.long 0, pm_un, .int 1] [] _ _ 0 0 _
      refine q_lload_n rfl rfl rfl ?_
      refine q_bipush rfl rfl ?_
      refine q_iconst rfl rfl ?_
      refine q_iload_n rfl rfl rfl ?_
      refine q_imul rfl rfl (q_tn (z := 4) rfl ?_)
      refine q_iadd rfl rfl (q_tn (z := 40) rfl ?_)
      refine q_lushr rfl rfl (q_tnl (z := 0) rfl ?_)
      refine q_l2i rfl rfl (q_tn (z := 0) rfl ?_)
      refine q_bipush rfl rfl ?_
      refine q_iand rfl rfl (q_tn (z := 0) rfl ?_)
      refine q_iret rfl rfl trivial ?_
      refine ⟨_, rfl, ?_⟩
      refine q_iadd rfl rfl (q_tn (z := 10) rfl ?_)
      refine q_lshl rfl rfl (q_tnl (z := 1024) rfl ?_)
      refine q_lor rfl rfl (q_tnl (z := 1025) rfl ?_)
      refine q_putf rfl rfl (by decide) rfl (by decide) rfl trivial ?_
      refine q_icc3 (z := 2) rfl rfl rfl rfl rfl ?_
      refine q_goto rfl ?_
      refine q_iload_n rfl rfl rfl ?_
      refine q_iconst rfl rfl ?_
      refine q_icge rfl rfl (fun c267 => absurd c267 (by decide)) (fun c267 => ?_)
      refine q_aload_n rfl rfl rfl ?_
      refine q_dupr rfl rfl ?_
      refine q_getf rfl rfl (by decide) rfl rfl ?_
      refine q_lconst rfl rfl ?_
      refine q_bipush rfl rfl ?_
      refine q_iload_n rfl rfl rfl ?_
      refine q_imul rfl rfl (q_tn (z := 20) rfl ?_)
      refine q_lload_n rfl rfl rfl ?_
      refine q_iload_n rfl rfl rfl ?_
      refine q_nS2 rfl rfl (Or.inl rfl) rfl rfl ⟨rfl, rfl⟩ rfl ?_
      change PQ _ _ _ mm_X0_place 0 [.long 0, pm_un, .int 2] [] _ _ 0 0 _
      refine q_lload_n rfl rfl rfl ?_
      refine q_bipush rfl rfl ?_
      refine q_iconst rfl rfl ?_
      refine q_iload_n rfl rfl rfl ?_
      refine q_imul rfl rfl (q_tn (z := 8) rfl ?_)
      refine q_iadd rfl rfl (q_tn (z := 44) rfl ?_)
      refine q_lushr rfl rfl (q_tnl (z := 0) rfl ?_)
      refine q_l2i rfl rfl (q_tn (z := 0) rfl ?_)
      refine q_bipush rfl rfl ?_
      refine q_iand rfl rfl (q_tn (z := 0) rfl ?_)
      refine q_iret rfl rfl trivial ?_
      refine ⟨_, rfl, ?_⟩
      refine q_iadd rfl rfl (q_tn (z := 20) rfl ?_)
      refine q_lshl rfl rfl (q_tnl (z := 1048576) rfl ?_)
      refine q_lor rfl rfl (q_tnl (z := 1049601) rfl ?_)
      refine q_putf rfl rfl (by decide) rfl (by decide) rfl trivial ?_
      refine q_icc3 (z := 3) rfl rfl rfl rfl rfl ?_
      refine q_goto rfl ?_
      refine q_iload_n rfl rfl rfl ?_
      refine q_iconst rfl rfl ?_
      refine q_icge rfl rfl (fun c268 => absurd c268 (by decide)) (fun c268 => ?_)
      refine q_aload_n rfl rfl rfl ?_
      refine q_dupr rfl rfl ?_
      refine q_getf rfl rfl (by decide) rfl rfl ?_
      refine q_lconst rfl rfl ?_
      refine q_bipush rfl rfl ?_
      refine q_iload_n rfl rfl rfl ?_
      refine q_imul rfl rfl (q_tn (z := 30) rfl ?_)
      refine q_lload_n rfl rfl rfl ?_
      refine q_iload_n rfl rfl rfl ?_
      refine q_nS2 rfl rfl (Or.inl rfl) rfl rfl ⟨rfl, rfl⟩ rfl ?_
      change PQ _ _ _ mm_X0_place 0 [.long 0, pm_un, .int 3] [] _ _ 0 0 _
      refine q_lload_n rfl rfl rfl ?_
      refine q_bipush rfl rfl ?_
      refine q_iconst rfl rfl ?_
      refine q_iload_n rfl rfl rfl ?_
      refine q_imul rfl rfl (q_tn (z := 12) rfl ?_)
      refine q_iadd rfl rfl (q_tn (z := 48) rfl ?_)
      refine q_lushr rfl rfl (q_tnl (z := 0) rfl ?_)
      refine q_l2i rfl rfl (q_tn (z := 0) rfl ?_)
      refine q_bipush rfl rfl ?_
      refine q_iand rfl rfl (q_tn (z := 0) rfl ?_)
      refine q_iret rfl rfl trivial ?_
      refine ⟨_, rfl, ?_⟩
      refine q_iadd rfl rfl (q_tn (z := 30) rfl ?_)
      refine q_lshl rfl rfl (q_tnl (z := 1073741824) rfl ?_)
      refine q_lor rfl rfl (q_tnl (z := 1074791425) rfl ?_)
      refine q_putf rfl rfl (by decide) rfl (by decide) rfl trivial ?_
      refine q_icc3 (z := 4) rfl rfl rfl rfl rfl ?_
      refine q_goto rfl ?_
      refine q_iload_n rfl rfl rfl ?_
      refine q_iconst rfl rfl ?_
      refine q_icge rfl rfl (fun c269 => ?_) (fun c269 => absurd (by decide) c269)
      refine q_ret rfl rfl ?_
      refine ⟨rfl, ?_⟩
      refine q_ret rfl rfl ?_
      refine ⟨rfl, ?_⟩
      refine q_aload_n rfl rfl rfl ?_
      refine q_getf rfl rfl (by decide) rfl rfl ?_
      refine q_ifne rfl rfl (fun c270 => ?_) (fun c270 => absurd (by decide) c270)
      refine q_iload_n rfl rfl rfl ?_
      refine q_ifeq rfl rfl (fun c271 => ?_) (fun c271 => absurd (by decide) c271)
      refine q_icc3 (z := 1) rfl rfl rfl rfl rfl ?_
      refine q_goto rfl ?_
      refine q_iload_n rfl rfl rfl ?_
      refine q_sipush rfl rfl ?_
      refine q_icge rfl rfl (fun c272 => absurd c272 (by decide)) (fun c272 => ?_)
      refine q_iload_n rfl rfl rfl ?_
      refine q_aload_n rfl rfl rfl ?_
      refine q_getf rfl rfl (by decide) rfl rfl ?_
      refine q_icge rfl rfl (fun c273 => ?_) (fun c273 => absurd (by decide) c273)
      refine q_ret rfl rfl ?_
      refine ⟨rfl, ?_⟩
      refine q_aload_n rfl rfl rfl ?_
      refine q_getf rfl rfl (by decide) (FW_0 S hW) rfl ?_
      refine q_iconst rfl rfl ?_
      refine q_putf rfl rfl (by decide) rfl (by decide) rfl trivial ?_
      refine q_aload_n rfl rfl rfl ?_
      refine q_getf rfl rfl (by decide) (FW_0 S hW) rfl ?_
      refine q_iload_n rfl rfl rfl ?_
      refine q_aload_n rfl rfl rfl ?_
      refine q_getf rfl rfl (by decide) rfl rfl ?_
      refine q_ifeq rfl rfl (fun c274 => ?_) (fun c274 => absurd (by decide) c274)
      refine q_aload_n rfl rfl rfl ?_
      refine q_getf rfl rfl (by decide) rfl rfl ?_
      refine q_iast rfl rfl (by decide) rfl (by decide) ?_
      refine q_aload_n rfl rfl rfl ?_
      refine q_getf rfl rfl (by decide) (FW_0 S hW) rfl ?_
      refine q_iload_n rfl rfl rfl ?_
      refine q_aload_n rfl rfl rfl ?_
      refine q_getf rfl rfl (by decide) rfl rfl ?_
      refine q_last rfl rfl (by decide) rfl (by decide) ?_
      refine q_aload_n rfl rfl rfl ?_
      refine q_getf rfl rfl (by decide) (FW_0 S hW) rfl ?_
      refine q_iload_n rfl rfl rfl ?_
      refine q_iald rfl rfl (by decide) rfl (by decide) (q_tn (z := 1) rfl ?_)
      refine q_iret rfl rfl trivial ?_
      refine ⟨_, rfl, ?_⟩
      refine q_bipush rfl rfl ?_
      refine q_icne rfl rfl (fun c275 => absurd c275 (by decide)) (fun c275 => ?_)
      refine q_iconst rfl rfl ?_
      refine q_ior rfl rfl (q_tn (z := 0) rfl ?_)
      refine q_ist1n rfl rfl rfl rfl ?_
      refine q_icc2 (z := 4) rfl rfl rfl rfl rfl ?_
      refine q_goto rfl ?_
      refine q_iload_n rfl rfl rfl ?_
      refine q_iconst rfl rfl ?_
      refine q_icge rfl rfl (fun c276 => absurd c276 (by decide)) (fun c276 => ?_)
      refine q_iload_n rfl rfl rfl ?_
      refine q_aload_n rfl rfl rfl ?_
      refine q_iload_n rfl rfl rfl ?_
      refine q_nV1 rfl rfl (Or.inl rfl) rfl rfl rfl (by decide) (FW_0 S hW) ⟨rfl, rfl⟩ rfl ?_
      change PQ _ _ _ mm_X11_sizeOf 0 [.ref 0, .int 4, pm_un] [] _ _ 0 0 _
      refine q_aload_n rfl rfl rfl ?_
      refine q_getf rfl rfl (by decide) (FW_0 S hW) rfl ?_
      refine q_iload_n rfl rfl rfl ?_
      refine q_iald rfl rfl (by decide) rfl (by decide) (q_tn (z := 0) rfl ?_)
      refine q_ifne rfl rfl (fun c277 => ?_) (fun c277 => absurd (by decide) c277)
      refine q_iload_n rfl rfl rfl ?_
      refine q_ifne rfl rfl (fun c278 => absurd c278 (by decide)) (fun c278 => ?_)
      refine q_aload_n rfl rfl rfl ?_
      refine q_getf rfl rfl (by decide) (FW_0 S hW) rfl ?_
      refine q_ast2n rfl rfl rfl rfl ?_
      refine q_aload_n rfl rfl rfl ?_
      refine q_getf rfl rfl (by decide) (FW_0 S hW) rfl ?_
      refine q_iload_n rfl rfl rfl ?_
      refine q_putf rfl rfl (by decide) rfl (by decide) rfl trivial ?_
      refine q_aload_n rfl rfl rfl ?_
      refine q_aload_n rfl rfl rfl ?_
      refine q_getf rfl rfl (by decide) (FW_0 S hW) rfl ?_
      refine q_iconst rfl rfl ?_
      refine q_nV2v rfl rfl (Or.inl rfl) rfl rfl rfl (by decide) rfl ⟨rfl, rfl⟩ rfl ?_
      change PQ _ _ _ mm_X7_explore 0 [.ref 16, .ref 7, .int 0, pm_un] [] _ _ 0 0 _
      refine q_aload_n rfl rfl rfl ?_
      refine q_nV0v rfl rfl (Or.inl rfl) rfl rfl rfl (by decide) rfl ⟨rfl, rfl⟩ rfl ?_
      change PQ _ _ _ mm_X7_clear 0 [.ref 16, pm_un] [] _ _ 0 0 _
      refine q_iconst rfl rfl ?_
      refine q_ist1n rfl rfl rfl rfl ?_
      refine q_iload_n rfl rfl rfl ?_
      refine q_aload_n rfl rfl rfl ?_
      refine q_getf rfl rfl (by decide) rfl rfl ?_
      refine q_icge rfl rfl (fun c279 => absurd c279 (by decide)) (fun c279 => ?_)
      refine q_aload_n rfl rfl rfl ?_
      refine q_getf rfl rfl (by decide) rfl rfl ?_
      refine q_aload_n rfl rfl rfl ?_
      refine q_getf rfl rfl (by decide) rfl rfl ?_
      refine q_iload_n rfl rfl rfl ?_
      refine q_iald rfl rfl (by decide) rfl (by decide) (q_tn (z := 0) rfl ?_)
      refine q_iconst rfl rfl ?_
      refine q_iast rfl rfl (by decide) rfl (by decide) ?_
      refine q_icc1 (z := 1) rfl rfl rfl rfl rfl ?_
      refine q_goto rfl ?_
      refine q_iload_n rfl rfl rfl ?_
      refine q_aload_n rfl rfl rfl ?_
      refine q_getf rfl rfl (by decide) rfl rfl ?_
      refine q_icge rfl rfl (fun c280 => ?_) (fun c280 => absurd (by decide) c280)
      refine q_aload_n rfl rfl rfl ?_
      refine q_iconst rfl rfl ?_
      refine q_putf rfl rfl (by decide) rfl (by decide) rfl trivial ?_
      refine q_aload_n rfl rfl rfl ?_
      refine q_iconst rfl rfl ?_
      refine q_putf rfl rfl (by decide) rfl (by decide) rfl rfl ?_
      refine q_aload_n rfl rfl rfl ?_
      refine q_iconst rfl rfl ?_
      refine q_putf rfl rfl (by decide) rfl (by decide) rfl rfl ?_
      refine q_aload_n rfl rfl rfl ?_
      refine q_lconst rfl rfl ?_
      refine q_putf rfl rfl (by decide) rfl (by decide) rfl trivial ?_
      refine q_ret rfl rfl ?_
      refine ⟨rfl, ?_⟩
      refine q_aload_n rfl rfl rfl ?_
      refine q_aload_n rfl rfl rfl ?_
      refine q_nV0 rfl rfl (Or.inl rfl) rfl rfl rfl (by decide) rfl ⟨rfl, rfl⟩ rfl ?_
      change PQ _ _ _ mm_X6_first 0 [.ref 7, pm_un, pm_un, pm_un] [] _ _ 0 0 _
      refine q_lconst rfl rfl ?_
      refine q_lst1n rfl rfl rfl rfl ?_
      refine q_iconst rfl rfl ?_
      refine q_ist3n rfl rfl rfl rfl ?_
      refine q_iload_n rfl rfl rfl ?_
      refine q_iconst rfl rfl ?_
      refine q_icge rfl rfl (fun c281 => absurd c281 (by decide)) (fun c281 => ?_)
      refine q_lload_n rfl rfl rfl ?_
      refine q_iload_n rfl rfl rfl ?_
      refine q_aload_n rfl rfl rfl ?_
      refine q_getf rfl rfl (by decide) rfl rfl ?_
      refine q_getf rfl rfl (by decide) (FW_1 S hW) rfl ?_
      refine q_iload_n rfl rfl rfl ?_
      refine q_iald rfl rfl (by decide) (FW_2 S hW) (by decide) (q_tn (z := 0) rfl ?_)
      refine q_nS3 rfl rfl (Or.inl rfl) rfl rfl ⟨rfl, rfl⟩ rfl ?_
      change PQ _ _ _ mm_X0_withPlace 0 [.long 0, pm_un, .int 0, .int 0, pm_un] [] _ _ 0 0 _
      refine q_bipush rfl rfl ?_
      refine q_iconst rfl rfl ?_
      refine q_iload_n rfl rfl rfl ?_
      refine q_imul rfl rfl (q_tn (z := 0) rfl ?_)
      refine q_iadd rfl rfl (q_tn (z := 36) rfl ?_)
      refine q_ist4 rfl rfl rfl rfl ?_
      refine q_lload_n rfl rfl rfl ?_
      refine q_ldc2 rfl rfl ?_
      refine q_iload rfl rfl rfl ?_
      as_aux_lemma =>
        refine q_lshl rfl rfl (q_tnl (z := 1030792151040) rfl ?_)
        refine q_ldc2 rfl rfl ?_
        refine q_lxor rfl rfl (q_tnl (z := (-1030792151041)) rfl ?_)
        refine q_land rfl rfl (q_tnl (z := 0) rfl ?_)
        refine q_iload_n rfl rfl rfl ?_
        refine q_i2l rfl rfl (q_tnl (z := 0) rfl ?_)
        refine q_iload rfl rfl rfl ?_
        refine q_lshl rfl rfl (q_tnl (z := 0) rfl ?_)
        refine q_lor rfl rfl (q_tnl (z := 0) rfl ?_)
        refine q_lret rfl rfl trivial ?_
        refine ⟨_, rfl, ?_⟩
        refine q_lst1n rfl rfl rfl rfl ?_
        refine q_icc3 (z := 1) rfl rfl rfl rfl rfl ?_
        refine q_goto rfl ?_
        refine q_iload_n rfl rfl rfl ?_
        refine q_iconst rfl rfl ?_
        refine q_icge rfl rfl (fun c282 => absurd c282 (by decide)) (fun c282 => ?_)
        refine q_lload_n rfl rfl rfl ?_
        refine q_iload_n rfl rfl rfl ?_
        refine q_aload_n rfl rfl rfl ?_
        refine q_getf rfl rfl (by decide) rfl rfl ?_
        refine q_getf rfl rfl (by decide) (FW_1 S hW) rfl ?_
        refine q_iload_n rfl rfl rfl ?_
        refine q_iald rfl rfl (by decide) (FW_2 S hW) (by decide) (q_tn (z := 0) rfl ?_)
        refine q_nS3 rfl rfl (Or.inl rfl) rfl rfl ⟨rfl, rfl⟩ rfl ?_
        change PQ _ _ _ mm_X0_withPlace 0 [.long 0, pm_un, .int 1, .int 0, pm_un] [] _ _ 0 0 _
        refine q_bipush rfl rfl ?_
        refine q_iconst rfl rfl ?_
        refine q_iload_n rfl rfl rfl ?_
        refine q_imul rfl rfl (q_tn (z := 4) rfl ?_)
        refine q_iadd rfl rfl (q_tn (z := 40) rfl ?_)
        refine q_ist4 rfl rfl rfl rfl ?_
        refine q_lload_n rfl rfl rfl ?_
        refine q_ldc2 rfl rfl ?_
        refine q_iload rfl rfl rfl ?_
        refine q_lshl rfl rfl (q_tnl (z := 16492674416640) rfl ?_)
        refine q_ldc2 rfl rfl ?_
        refine q_lxor rfl rfl (q_tnl (z := (-16492674416641)) rfl ?_)
        refine q_land rfl rfl (q_tnl (z := 0) rfl ?_)
        refine q_iload_n rfl rfl rfl ?_
        refine q_i2l rfl rfl (q_tnl (z := 0) rfl ?_)
        refine q_iload rfl rfl rfl ?_
        refine q_lshl rfl rfl (q_tnl (z := 0) rfl ?_)
        refine q_lor rfl rfl (q_tnl (z := 0) rfl ?_)
        refine q_lret rfl rfl trivial ?_
        refine ⟨_, rfl, ?_⟩
        refine q_lst1n rfl rfl rfl rfl ?_
        refine q_icc3 (z := 2) rfl rfl rfl rfl rfl ?_
        refine q_goto rfl ?_
        refine q_iload_n rfl rfl rfl ?_
        refine q_iconst rfl rfl ?_
        refine q_icge rfl rfl (fun c283 => absurd c283 (by decide)) (fun c283 => ?_)
        refine q_lload_n rfl rfl rfl ?_
        refine q_iload_n rfl rfl rfl ?_
        refine q_aload_n rfl rfl rfl ?_
        refine q_getf rfl rfl (by decide) rfl rfl ?_
        refine q_getf rfl rfl (by decide) (FW_1 S hW) rfl ?_
        refine q_iload_n rfl rfl rfl ?_
        refine q_iald rfl rfl (by decide) (FW_2 S hW) (by decide) (q_tn (z := 0) rfl ?_)
        refine q_nS3 rfl rfl (Or.inl rfl) rfl rfl ⟨rfl, rfl⟩ rfl ?_
        change PQ _ _ _ mm_X0_withPlace 0 [.long 0, pm_un, .int 2, .int 0, pm_un] [] _ _ 0 0 _
        refine q_bipush rfl rfl ?_
        refine q_iconst rfl rfl ?_
        refine q_iload_n rfl rfl rfl ?_
        refine q_imul rfl rfl (q_tn (z := 8) rfl ?_)
        refine q_iadd rfl rfl (q_tn (z := 44) rfl ?_)
        refine q_ist4 rfl rfl rfl rfl ?_
        refine q_lload_n rfl rfl rfl ?_
        refine q_ldc2 rfl rfl ?_
        refine q_iload rfl rfl rfl ?_
        refine q_lshl rfl rfl (q_tnl (z := 263882790666240) rfl ?_)
        refine q_ldc2 rfl rfl ?_
        refine q_lxor rfl rfl (q_tnl (z := (-263882790666241)) rfl ?_)
        refine q_land rfl rfl (q_tnl (z := 0) rfl ?_)
        refine q_iload_n rfl rfl rfl ?_
        refine q_i2l rfl rfl (q_tnl (z := 0) rfl ?_)
        refine q_iload rfl rfl rfl ?_
        refine q_lshl rfl rfl (q_tnl (z := 0) rfl ?_)
        refine q_lor rfl rfl (q_tnl (z := 0) rfl ?_)
        refine q_lret rfl rfl trivial ?_
        refine ⟨_, rfl, ?_⟩
        refine q_lst1n rfl rfl rfl rfl ?_
        refine q_icc3 (z := 3) rfl rfl rfl rfl rfl ?_
        refine q_goto rfl ?_
        refine q_iload_n rfl rfl rfl ?_
        refine q_iconst rfl rfl ?_
        refine q_icge rfl rfl (fun c284 => absurd c284 (by decide)) (fun c284 => ?_)
        refine q_lload_n rfl rfl rfl ?_
        refine q_iload_n rfl rfl rfl ?_
        refine q_aload_n rfl rfl rfl ?_
        refine q_getf rfl rfl (by decide) rfl rfl ?_
        refine q_getf rfl rfl (by decide) (FW_1 S hW) rfl ?_
        refine q_iload_n rfl rfl rfl ?_
        refine q_iald rfl rfl (by decide) (FW_2 S hW) (by decide) (q_tn (z := 0) rfl ?_)
        refine q_nS3 rfl rfl (Or.inl rfl) rfl rfl ⟨rfl, rfl⟩ rfl ?_
        change PQ _ _ _ mm_X0_withPlace 0 [.long 0, pm_un, .int 3, .int 0, pm_un] [] _ _ 0 0 _
        refine q_bipush rfl rfl ?_
        refine q_iconst rfl rfl ?_
        refine q_iload_n rfl rfl rfl ?_
        refine q_imul rfl rfl (q_tn (z := 12) rfl ?_)
        refine q_iadd rfl rfl (q_tn (z := 48) rfl ?_)
        refine q_ist4 rfl rfl rfl rfl ?_
        refine q_lload_n rfl rfl rfl ?_
        refine q_ldc2 rfl rfl ?_
        refine q_iload rfl rfl rfl ?_
        refine q_lshl rfl rfl (q_tnl (z := 4222124650659840) rfl ?_)
        refine q_ldc2 rfl rfl ?_
        refine q_lxor rfl rfl (q_tnl (z := (-4222124650659841)) rfl ?_)
        refine q_land rfl rfl (q_tnl (z := 0) rfl ?_)
        refine q_iload_n rfl rfl rfl ?_
        refine q_i2l rfl rfl (q_tnl (z := 0) rfl ?_)
        refine q_iload rfl rfl rfl ?_
        refine q_lshl rfl rfl (q_tnl (z := 0) rfl ?_)
        refine q_lor rfl rfl (q_tnl (z := 0) rfl ?_)
        refine q_lret rfl rfl trivial ?_
        refine ⟨_, rfl, ?_⟩
        refine q_lst1n rfl rfl rfl rfl ?_
        refine q_icc3 (z := 4) rfl rfl rfl rfl rfl ?_
        refine q_goto rfl ?_
        refine q_iload_n rfl rfl rfl ?_
        refine q_iconst rfl rfl ?_
        refine q_icge rfl rfl (fun c285 => ?_) (fun c285 => absurd (by decide) c285)
        refine q_lload_n rfl rfl rfl ?_
        refine q_lret rfl rfl trivial ?_
        refine ⟨_, rfl, ?_⟩
        refine q_iconst rfl rfl ?_
        refine q_iconst rfl rfl ?_
        refine q_nV3 rfl rfl (Or.inl rfl) rfl rfl rfl (by decide) rfl ⟨rfl, rfl⟩ rfl ?_
        change PQ _ _ _ mm_X7_numberOf 0 [.ref 16, .long 0, pm_un, .int (-1), .int (-1), pm_un, pm_un, pm_un] [] _ _ 0 0 _
        refine q_lload_n rfl rfl rfl ?_
        refine q_ldc2 rfl rfl ?_
        refine q_lmul rfl rfl (q_tnl (z := 0) rfl ?_)
        refine q_bipush rfl rfl ?_
        refine q_lushr rfl rfl (q_tnl (z := 0) rfl ?_)
        refine q_l2i rfl rfl (q_tn (z := 0) rfl ?_)
        refine q_sipush rfl rfl ?_
        refine q_iand rfl rfl (q_tn (z := 0) rfl ?_)
        refine q_ist5 rfl rfl rfl rfl ?_
        refine q_iconst rfl rfl ?_
        refine q_ist6 rfl rfl rfl rfl ?_
        refine q_iload rfl rfl rfl ?_
        refine q_sipush rfl rfl ?_
        refine q_icge rfl rfl (fun c286 => absurd c286 (by decide)) (fun c286 => ?_)
        refine q_aload_n rfl rfl rfl ?_
        refine q_getf rfl rfl (by decide) rfl rfl ?_
        refine q_iload rfl rfl rfl ?_
        refine q_iald rfl rfl (by decide) rfl (by decide) (q_tn (z := 0) rfl ?_)
        refine q_iconst rfl rfl ?_
        refine q_isub rfl rfl (q_tn (z := (-1)) rfl ?_)
        refine q_ist7 rfl rfl rfl rfl ?_
        refine q_iload rfl rfl rfl ?_
        refine q_ifge rfl rfl (fun c287 => absurd c287 (by decide)) (fun c287 => ?_)
        refine q_aload_n rfl rfl rfl ?_
        refine q_lload_n rfl rfl rfl ?_
        refine q_iload rfl rfl rfl ?_
        refine q_iload_n rfl rfl rfl ?_
        refine q_iload rfl rfl rfl ?_
        refine q_nV4 rfl rfl (Or.inl rfl) rfl rfl rfl (by decide) rfl ⟨rfl, rfl⟩ rfl ?_
        change PQ _ _ _ mm_X7_newNumber 0 [.ref 16, .long 0, pm_un, .int 0, .int (-1), .int (-1), pm_un] [] _ _ 0 0 _
        refine q_aload_n rfl rfl rfl ?_
        refine q_getf rfl rfl (by decide) rfl rfl ?_
        refine q_sipush rfl rfl ?_
        refine q_iclt rfl rfl (fun c288 => ?_) (fun c288 => absurd (by decide) c288)
        refine q_aload_n rfl rfl rfl ?_
        refine q_dupr rfl rfl ?_
        refine q_getf rfl rfl (by decide) rfl rfl ?_
        refine q_dupx1 rfl rfl ?_
        refine q_iconst rfl rfl ?_
        refine q_iadd rfl rfl (q_tn (z := 1) rfl ?_)
        refine q_putf rfl rfl (by decide) rfl (by decide) rfl trivial ?_
        refine q_ist6 rfl rfl rfl rfl ?_
        refine q_aload_n rfl rfl rfl ?_
        refine q_getf rfl rfl (by decide) rfl rfl ?_
        refine q_iload rfl rfl rfl ?_
        refine q_lload_n rfl rfl rfl ?_
        refine q_last rfl rfl (by decide) rfl (by decide) ?_
        refine q_aload_n rfl rfl rfl ?_
        refine q_getf rfl rfl (by decide) rfl rfl ?_
        refine q_iload rfl rfl rfl ?_
        refine q_iload rfl rfl rfl ?_
        refine q_iast rfl rfl (by decide) rfl (by decide) ?_
        refine q_aload_n rfl rfl rfl ?_
        refine q_getf rfl rfl (by decide) rfl rfl ?_
        refine q_iload rfl rfl rfl ?_
        refine q_iload rfl rfl rfl ?_
        refine q_iast rfl rfl (by decide) rfl (by decide) ?_
        refine q_aload_n rfl rfl rfl ?_
        refine q_getf rfl rfl (by decide) rfl rfl ?_
        refine q_iload rfl rfl rfl ?_
        refine q_iload_n rfl rfl rfl ?_
        refine q_iast rfl rfl (by decide) rfl (by decide) ?_
        refine q_aload_n rfl rfl rfl ?_
        refine q_getf rfl rfl (by decide) rfl rfl ?_
        refine q_iload_n rfl rfl rfl ?_
        refine q_iload rfl rfl rfl ?_
        refine q_iconst rfl rfl ?_
        refine q_iadd rfl rfl (q_tn (z := 1) rfl ?_)
        refine q_iast rfl rfl (by decide) rfl (by decide) ?_
        refine q_iload rfl rfl rfl ?_
        refine q_iret rfl rfl trivial ?_
        refine ⟨_, rfl, ?_⟩
        refine q_iret rfl rfl trivial ?_
        refine ⟨_, rfl, ?_⟩
        refine q_pop rfl rfl ?_
        refine q_iconst rfl rfl ?_
        refine q_ist3n rfl rfl rfl rfl ?_
        refine q_iload_n rfl rfl rfl ?_
        refine q_sipush rfl rfl ?_
        refine q_icge rfl rfl (fun c289 => absurd c289 (by decide)) (fun c289 => ?_)
        refine q_iload_n rfl rfl rfl ?_
        refine q_aload_n rfl rfl rfl ?_
        refine q_getf rfl rfl (by decide) rfl rfl ?_
        refine q_icge rfl rfl (fun c290 => absurd c290 (by decide)) (fun c290 => ?_)
        refine q_aload_n rfl rfl rfl ?_
        refine q_aload_n rfl rfl rfl ?_
        refine q_iload_n rfl rfl rfl ?_
        refine q_nV2v rfl rfl (Or.inl rfl) rfl rfl rfl (by decide) rfl ⟨rfl, rfl⟩ rfl ?_
        change PQ _ _ _ mm_X7_lookAt 0 [.ref 16, .ref 7, .int 0, pm_un, pm_un, pm_un, pm_un, pm_un, pm_un, pm_un] [] _ _ 0 0 _
        refine q_aload_n rfl rfl rfl ?_
        refine q_getf rfl rfl (by decide) rfl rfl ?_
        refine q_iload_n rfl rfl rfl ?_
        refine q_lald rfl rfl (by decide) rfl (by decide) (q_tnl (z := 0) rfl ?_)
        refine q_lst3n rfl rfl rfl rfl ?_
        refine q_aload_n rfl rfl rfl ?_
        refine q_aload_n rfl rfl rfl ?_
        refine q_lload_n rfl rfl rfl ?_
        refine q_nV1 rfl rfl (Or.inl rfl) rfl rfl rfl (by decide) rfl ⟨rfl, rfl⟩ rfl ?_
        change PQ _ _ _ mm_X6_ableHands 0 [.ref 7, .long 0, pm_un, pm_un, pm_un, pm_un] [] _ _ 0 0 _
        refine q_aload_n rfl rfl rfl ?_
        refine q_lload_n rfl rfl rfl ?_
        refine q_nV1 rfl rfl (Or.inl rfl) rfl rfl rfl (by decide) rfl ⟨rfl, rfl⟩ rfl ?_
        change PQ _ _ _ mm_X6_allMeet 0 [.ref 7, .long 0, pm_un, pm_un, pm_un] [] _ _ 0 0 _
        refine q_iconst rfl rfl ?_
        refine q_ist3n rfl rfl rfl rfl ?_
        refine q_iload_n rfl rfl rfl ?_
        refine q_aload_n rfl rfl rfl ?_
        refine q_getf rfl rfl (by decide) rfl rfl ?_
        refine q_getf rfl rfl (by decide) (FW_1 S hW) rfl ?_
        refine q_icge rfl rfl (fun c291 => absurd c291 (by decide)) (fun c291 => ?_)
        refine q_aload_n rfl rfl rfl ?_
        refine q_getf rfl rfl (by decide) rfl rfl ?_
        refine q_iload_n rfl rfl rfl ?_
        refine q_lload_n rfl rfl rfl ?_
        refine q_iload_n rfl rfl rfl ?_
        refine q_nS2 rfl rfl (Or.inl rfl) rfl rfl ⟨rfl, rfl⟩ rfl ?_
        change PQ _ _ _ mm_X0_position 0 [.long 0, pm_un, .int 0] [] _ _ 0 0 _
        refine q_lload_n rfl rfl rfl ?_
        refine q_bipush rfl rfl ?_
        refine q_iload_n rfl rfl rfl ?_
        refine q_imul rfl rfl (q_tn (z := 0) rfl ?_)
        refine q_lushr rfl rfl (q_tnl (z := 0) rfl ?_)
        refine q_l2i rfl rfl (q_tn (z := 0) rfl ?_)
        refine q_bipush rfl rfl ?_
        refine q_iand rfl rfl (q_tn (z := 0) rfl ?_)
        refine q_iret rfl rfl trivial ?_
        refine ⟨_, rfl, ?_⟩
        refine q_nV2 rfl rfl (Or.inl rfl) rfl rfl rfl (by decide) (FW_1 S hW) ⟨rfl, rfl⟩ rfl ?_
        change PQ _ _ _ mm_X8_cellOf 0 [.ref 1, .int 0, .int 0, pm_un] [] _ _ 0 0 _
        refine q_iload_n rfl rfl rfl ?_
        refine q_iflt rfl rfl (fun c292 => absurd c292 (by decide)) (fun c292 => ?_)
        refine q_iload_n rfl rfl rfl ?_
        refine q_aload_n rfl rfl rfl ?_
        refine q_getf rfl rfl (by decide) (FW_1 S hW) rfl ?_
        refine q_icge rfl rfl (fun c293 => absurd c293 (by decide)) (fun c293 => ?_)
        refine q_iload_n rfl rfl rfl ?_
        refine q_iflt rfl rfl (fun c294 => absurd c294 (by decide)) (fun c294 => ?_)
        refine q_iload_n rfl rfl rfl ?_
        refine q_aload_n rfl rfl rfl ?_
        refine q_getf rfl rfl (by decide) (FW_1 S hW) rfl ?_
        refine q_iload_n rfl rfl rfl ?_
        refine q_iald rfl rfl (by decide) (FW_3 S hW) (by decide) (q_tn (z := 0) rfl ?_)
        refine q_icge rfl rfl (fun c295 => ?_) (fun c295 => absurd (by decide) c295)
        refine q_iconst rfl rfl ?_
        refine q_ist3n rfl rfl rfl rfl ?_
        refine q_iload_n rfl rfl rfl ?_
        refine q_ifeq rfl rfl (fun c296 => ?_) (fun c296 => absurd (by decide) c296)
        refine q_iconst rfl rfl ?_
        refine q_iret rfl rfl trivial ?_
        refine ⟨_, rfl, ?_⟩
        refine q_ist4 rfl rfl rfl rfl ?_
        refine q_iload rfl rfl rfl ?_
        refine q_iflt rfl rfl (fun c297 => ?_) (fun c297 => absurd (by decide) c297)
        refine q_icc3 (z := 1) rfl rfl rfl rfl rfl ?_
        refine q_goto rfl ?_
        refine q_iload_n rfl rfl rfl ?_
        refine q_aload_n rfl rfl rfl ?_
        refine q_getf rfl rfl (by decide) rfl rfl ?_
        refine q_getf rfl rfl (by decide) (FW_1 S hW) rfl ?_
        refine q_icge rfl rfl (fun c298 => ?_) (fun c298 => absurd (by decide) c298)
        refine q_iconst rfl rfl ?_
        refine q_iret rfl rfl rfl ?_
        refine ⟨_, rfl, ?_⟩
        refine q_ist3n rfl rfl rfl rfl ?_
        refine q_iconst rfl rfl ?_
        refine q_ist4 rfl rfl rfl rfl ?_
        refine q_iconst rfl rfl ?_
        refine q_ist5 rfl rfl rfl rfl ?_
        refine q_iload rfl rfl rfl ?_
        refine q_aload_n rfl rfl rfl ?_
        refine q_getf rfl rfl (by decide) rfl rfl ?_
        refine q_getf rfl rfl (by decide) (FW_1 S hW) rfl ?_
        refine q_icge rfl rfl (fun c299 => absurd c299 (by decide)) (fun c299 => ?_)
        refine q_aload_n rfl rfl rfl ?_
        refine q_lload_n rfl rfl rfl ?_
        refine q_iload rfl rfl rfl ?_
        refine q_iload_n rfl rfl rfl ?_
        refine q_nV3 rfl rfl (Or.inl rfl) rfl rfl rfl (by decide) rfl ⟨rfl, rfl⟩ rfl ?_
        change PQ _ _ _ mm_X6_isAble 0 [.ref 7, .long 0, pm_un, .int 0, .int 1, pm_un, pm_un, pm_un] [] _ _ 0 0 _
        refine q_aload_n rfl rfl rfl ?_
        refine q_getf rfl rfl (by decide) rfl rfl ?_
        refine q_iload_n rfl rfl rfl ?_
        refine q_lload_n rfl rfl rfl ?_
        refine q_iload_n rfl rfl rfl ?_
        refine q_nS2 rfl rfl (Or.inl rfl) rfl rfl ⟨rfl, rfl⟩ rfl ?_
        change PQ _ _ _ mm_X0_position 0 [.long 0, pm_un, .int 0] [] _ _ 0 0 _
        refine q_lload_n rfl rfl rfl ?_
        refine q_bipush rfl rfl ?_
        refine q_iload_n rfl rfl rfl ?_
        refine q_imul rfl rfl (q_tn (z := 0) rfl ?_)
        refine q_lushr rfl rfl (q_tnl (z := 0) rfl ?_)
        refine q_l2i rfl rfl (q_tn (z := 0) rfl ?_)
        refine q_bipush rfl rfl ?_
        refine q_iand rfl rfl (q_tn (z := 0) rfl ?_)
        refine q_iret rfl rfl trivial ?_
        refine ⟨_, rfl, ?_⟩
        refine q_nV2 rfl rfl (Or.inl rfl) rfl rfl rfl (by decide) (FW_1 S hW) ⟨rfl, rfl⟩ rfl ?_
        change PQ _ _ _ mm_X8_cellOf 0 [.ref 1, .int 0, .int 0, pm_un] [] _ _ 0 0 _
        refine q_iload_n rfl rfl rfl ?_
        refine q_iflt rfl rfl (fun c300 => absurd c300 (by decide)) (fun c300 => ?_)
        refine q_iload_n rfl rfl rfl ?_
        refine q_aload_n rfl rfl rfl ?_
        refine q_getf rfl rfl (by decide) (FW_1 S hW) rfl ?_
        refine q_icge rfl rfl (fun c301 => absurd c301 (by decide)) (fun c301 => ?_)
        refine q_iload_n rfl rfl rfl ?_
        refine q_iflt rfl rfl (fun c302 => absurd c302 (by decide)) (fun c302 => ?_)
        refine q_iload_n rfl rfl rfl ?_
        refine q_aload_n rfl rfl rfl ?_
        refine q_getf rfl rfl (by decide) (FW_1 S hW) rfl ?_
        refine q_iload_n rfl rfl rfl ?_
        refine q_iald rfl rfl (by decide) (FW_3 S hW) (by decide) (q_tn (z := 0) rfl ?_)
        refine q_icge rfl rfl (fun c303 => ?_) (fun c303 => absurd (by decide) c303)
        refine q_iconst rfl rfl ?_
        refine q_ist3n rfl rfl rfl rfl ?_
        refine q_iload_n rfl rfl rfl ?_
        refine q_ifeq rfl rfl (fun c304 => ?_) (fun c304 => absurd (by decide) c304)
        refine q_iconst rfl rfl ?_
        refine q_iret rfl rfl trivial ?_
        refine ⟨_, rfl, ?_⟩
        refine q_ist5 rfl rfl rfl rfl ?_
        refine q_iload rfl rfl rfl ?_
        refine q_ifge rfl rfl (fun c305 => absurd c305 (by decide)) (fun c305 => ?_)
        refine q_iconst rfl rfl ?_
        refine q_iret rfl rfl rfl ?_
        refine ⟨_, rfl, ?_⟩
        refine q_ifeq rfl rfl (fun c306 => ?_) (fun c306 => absurd (by decide) c306)
        refine q_icc5 (z := 1) rfl rfl rfl rfl rfl ?_
        refine q_goto rfl ?_
        refine q_iload rfl rfl rfl ?_
        refine q_aload_n rfl rfl rfl ?_
        refine q_getf rfl rfl (by decide) rfl rfl ?_
        refine q_getf rfl rfl (by decide) (FW_1 S hW) rfl ?_
        refine q_icge rfl rfl (fun c307 => ?_) (fun c307 => absurd (by decide) c307)
        refine q_iload rfl rfl rfl ?_
        refine q_iret rfl rfl trivial ?_
        refine ⟨_, rfl, ?_⟩
        refine q_lload_n rfl rfl rfl ?_
        refine q_nS1 rfl rfl (Or.inl rfl) rfl rfl ⟨rfl, rfl⟩ rfl ?_
        change PQ _ _ _ mm_X0_last 0 [.long 0, pm_un] [] _ _ 0 0 _
        refine q_lload_n rfl rfl rfl ?_
        refine q_bipush rfl rfl ?_
        refine q_lushr rfl rfl (q_tnl (z := 0) rfl ?_)
        refine q_l2i rfl rfl (q_tn (z := 0) rfl ?_)
        refine q_iconst rfl rfl ?_
        refine q_iand rfl rfl (q_tn (z := 0) rfl ?_)
        refine q_iconst rfl rfl ?_
        refine q_isub rfl rfl (q_tn (z := (-1)) rfl ?_)
        refine q_iret rfl rfl trivial ?_
        refine ⟨_, rfl, ?_⟩
        refine q_nV2 rfl rfl (Or.inl rfl) rfl rfl rfl (by decide) rfl ⟨rfl, rfl⟩ rfl ?_
        change PQ _ _ _ mm_X6_chosenHands 0 [.ref 7, .int 0, .int (-1), pm_un, pm_un] [] _ _ 0 0 _
        refine q_aload_n rfl rfl rfl ?_
        refine q_getf rfl rfl (by decide) rfl rfl ?_
        refine q_iconst rfl rfl ?_
        refine q_icne rfl rfl (fun c308 => absurd c308 (by decide)) (fun c308 => ?_)
        refine q_aload_n rfl rfl rfl ?_
        refine q_getf rfl rfl (by decide) rfl rfl ?_
        refine q_iconst rfl rfl ?_
        refine q_iceq rfl rfl (fun c309 => absurd c309 (by decide)) (fun c309 => ?_)
        refine q_iload_n rfl rfl rfl ?_
        refine q_iret rfl rfl trivial ?_
        refine ⟨_, rfl, ?_⟩
        refine q_ist5 rfl rfl rfl rfl ?_
        refine q_iconst rfl rfl ?_
        refine q_ist6 rfl rfl rfl rfl ?_
        refine q_iload rfl rfl rfl ?_
        refine q_iconst rfl rfl ?_
        refine q_icge rfl rfl (fun c310 => absurd c310 (by decide)) (fun c310 => ?_)
        refine q_iconst rfl rfl ?_
        refine q_ist7 rfl rfl rfl rfl ?_
        refine q_iload rfl rfl rfl ?_
        refine q_iload rfl rfl rfl ?_
        refine q_iushr rfl rfl (q_tn (z := 0) rfl ?_)
        refine q_iconst rfl rfl ?_
        refine q_iand rfl rfl (q_tn (z := 0) rfl ?_)
        refine q_ifeq rfl rfl (fun c311 => ?_) (fun c311 => absurd (by decide) c311)
        refine q_aload_n rfl rfl rfl ?_
        refine q_getf rfl rfl (by decide) rfl rfl ?_
        refine q_iload_n rfl rfl rfl ?_
        refine q_iconst rfl rfl ?_
        refine q_imul rfl rfl (q_tn (z := 0) rfl ?_)
        refine q_iload rfl rfl rfl ?_
        refine q_iadd rfl rfl (q_tn (z := 0) rfl ?_)
        refine q_iload rfl rfl rfl ?_
        refine q_iast rfl rfl (by decide) rfl (by decide) ?_
        refine q_icc6 (z := 1) rfl rfl rfl rfl rfl ?_
        refine q_goto rfl ?_
        refine q_iload rfl rfl rfl ?_
        refine q_iconst rfl rfl ?_
        refine q_icge rfl rfl (fun c312 => absurd c312 (by decide)) (fun c312 => ?_)
        refine q_iconst rfl rfl ?_
        refine q_ist7 rfl rfl rfl rfl ?_
        refine q_iload rfl rfl rfl ?_
        refine q_iload rfl rfl rfl ?_
        refine q_iushr rfl rfl (q_tn (z := 0) rfl ?_)
        refine q_iconst rfl rfl ?_
        refine q_iand rfl rfl (q_tn (z := 0) rfl ?_)
        refine q_ifeq rfl rfl (fun c313 => ?_) (fun c313 => absurd (by decide) c313)
        refine q_aload_n rfl rfl rfl ?_
        refine q_getf rfl rfl (by decide) rfl rfl ?_
        refine q_iload_n rfl rfl rfl ?_
        refine q_iconst rfl rfl ?_
        refine q_imul rfl rfl (q_tn (z := 0) rfl ?_)
        refine q_iload rfl rfl rfl ?_
        refine q_iadd rfl rfl (q_tn (z := 1) rfl ?_)
        refine q_iload rfl rfl rfl ?_
        refine q_iast rfl rfl (by decide) rfl (by decide) ?_
        refine q_icc6 (z := 2) rfl rfl rfl rfl rfl ?_
        refine q_goto rfl ?_
        refine q_iload rfl rfl rfl ?_
        refine q_iconst rfl rfl ?_
        refine q_icge rfl rfl (fun c314 => absurd c314 (by decide)) (fun c314 => ?_)
        refine q_iconst rfl rfl ?_
        refine q_ist7 rfl rfl rfl rfl ?_
        refine q_iload rfl rfl rfl ?_
        refine q_iload rfl rfl rfl ?_
        refine q_iushr rfl rfl (q_tn (z := 0) rfl ?_)
        refine q_iconst rfl rfl ?_
        refine q_iand rfl rfl (q_tn (z := 0) rfl ?_)
        refine q_ifeq rfl rfl (fun c315 => ?_) (fun c315 => absurd (by decide) c315)
        refine q_aload_n rfl rfl rfl ?_
        refine q_getf rfl rfl (by decide) rfl rfl ?_
        refine q_iload_n rfl rfl rfl ?_
        refine q_iconst rfl rfl ?_
        refine q_imul rfl rfl (q_tn (z := 0) rfl ?_)
        refine q_iload rfl rfl rfl ?_
        refine q_iadd rfl rfl (q_tn (z := 2) rfl ?_)
        refine q_iload rfl rfl rfl ?_
        refine q_iast rfl rfl (by decide) rfl (by decide) ?_
        refine q_icc6 (z := 3) rfl rfl rfl rfl rfl ?_
        refine q_goto rfl ?_
        refine q_iload rfl rfl rfl ?_
        refine q_iconst rfl rfl ?_
        refine q_icge rfl rfl (fun c316 => ?_) (fun c316 => absurd (by decide) c316)
        refine q_aload_n rfl rfl rfl ?_
        refine q_getf rfl rfl (by decide) rfl rfl ?_
        refine q_iload_n rfl rfl rfl ?_
        refine q_iload rfl rfl rfl ?_
        refine q_ifeq rfl rfl (fun c317 => ?_) (fun c317 => absurd (by decide) c317)
        refine q_aload_n rfl rfl rfl ?_
        refine q_lload_n rfl rfl rfl ?_
        refine q_nV1 rfl rfl (Or.inl rfl) rfl rfl rfl (by decide) rfl ⟨rfl, rfl⟩ rfl ?_
        change PQ _ _ _ mm_X6_isEnd 0 [.ref 7, .long 0, pm_un, pm_un] [] _ _ 0 0 _
        refine q_iconst rfl rfl ?_
        refine q_ist3n rfl rfl rfl rfl ?_
        refine q_iload_n rfl rfl rfl ?_
        refine q_aload_n rfl rfl rfl ?_
        refine q_getf rfl rfl (by decide) rfl rfl ?_
        refine q_getf rfl rfl (by decide) (FW_1 S hW) rfl ?_
        refine q_icge rfl rfl (fun c318 => absurd c318 (by decide)) (fun c318 => ?_)
        refine q_aload_n rfl rfl rfl ?_
        refine q_getf rfl rfl (by decide) rfl rfl ?_
        refine q_iload_n rfl rfl rfl ?_
        refine q_lload_n rfl rfl rfl ?_
        refine q_iload_n rfl rfl rfl ?_
        refine q_nS2 rfl rfl (Or.inl rfl) rfl rfl ⟨rfl, rfl⟩ rfl ?_
        change PQ _ _ _ mm_X0_position 0 [.long 0, pm_un, .int 0] [] _ _ 0 0 _
        refine q_lload_n rfl rfl rfl ?_
        refine q_bipush rfl rfl ?_
        refine q_iload_n rfl rfl rfl ?_
        refine q_imul rfl rfl (q_tn (z := 0) rfl ?_)
        refine q_lushr rfl rfl (q_tnl (z := 0) rfl ?_)
        refine q_l2i rfl rfl (q_tn (z := 0) rfl ?_)
        refine q_bipush rfl rfl ?_
        refine q_iand rfl rfl (q_tn (z := 0) rfl ?_)
        refine q_iret rfl rfl trivial ?_
        refine ⟨_, rfl, ?_⟩
        refine q_nV2 rfl rfl (Or.inl rfl) rfl rfl rfl (by decide) (FW_1 S hW) ⟨rfl, rfl⟩ rfl ?_
        change PQ _ _ _ mm_X8_cellOf 0 [.ref 1, .int 0, .int 0, pm_un] [] _ _ 0 0 _
        refine q_iload_n rfl rfl rfl ?_
        refine q_iflt rfl rfl (fun c319 => absurd c319 (by decide)) (fun c319 => ?_)
        refine q_iload_n rfl rfl rfl ?_
        refine q_aload_n rfl rfl rfl ?_
        refine q_getf rfl rfl (by decide) (FW_1 S hW) rfl ?_
        refine q_icge rfl rfl (fun c320 => absurd c320 (by decide)) (fun c320 => ?_)
        refine q_iload_n rfl rfl rfl ?_
        refine q_iflt rfl rfl (fun c321 => absurd c321 (by decide)) (fun c321 => ?_)
        refine q_iload_n rfl rfl rfl ?_
        refine q_aload_n rfl rfl rfl ?_
        refine q_getf rfl rfl (by decide) (FW_1 S hW) rfl ?_
        refine q_iload_n rfl rfl rfl ?_
        refine q_iald rfl rfl (by decide) (FW_3 S hW) (by decide) (q_tn (z := 0) rfl ?_)
        refine q_icge rfl rfl (fun c322 => ?_) (fun c322 => absurd (by decide) c322)
        refine q_iconst rfl rfl ?_
        refine q_ist3n rfl rfl rfl rfl ?_
        refine q_iload_n rfl rfl rfl ?_
        refine q_ifeq rfl rfl (fun c323 => ?_) (fun c323 => absurd (by decide) c323)
        refine q_iconst rfl rfl ?_
        refine q_iret rfl rfl trivial ?_
        refine ⟨_, rfl, ?_⟩
        refine q_iflt rfl rfl (fun c324 => ?_) (fun c324 => absurd (by decide) c324)
        refine q_icc3 (z := 1) rfl rfl rfl rfl rfl ?_
        refine q_goto rfl ?_
        refine q_iload_n rfl rfl rfl ?_
        refine q_aload_n rfl rfl rfl ?_
        refine q_getf rfl rfl (by decide) rfl rfl ?_
        refine q_getf rfl rfl (by decide) (FW_1 S hW) rfl ?_
        refine q_icge rfl rfl (fun c325 => ?_) (fun c325 => absurd (by decide) c325)
        refine q_iconst rfl rfl ?_
        refine q_iret rfl rfl rfl ?_
        refine ⟨_, rfl, ?_⟩
        refine q_ifeq rfl rfl (fun c326 => absurd c326 (by decide)) (fun c326 => ?_)
        refine q_iconst rfl rfl ?_
        refine q_goto rfl ?_
        refine q_iast rfl rfl (by decide) rfl (by decide) ?_
        refine q_aload_n rfl rfl rfl ?_
        refine q_dupr rfl rfl ?_
        refine q_getf rfl rfl (by decide) rfl rfl ?_
        refine q_aload_n rfl rfl rfl ?_
        refine q_getf rfl rfl (by decide) rfl rfl ?_
        refine q_iload_n rfl rfl rfl ?_
        refine q_iald rfl rfl (by decide) rfl (by decide) (q_tn (z := 1) rfl ?_)
        refine q_iconst rfl rfl ?_
        refine q_iceq rfl rfl (fun c327 => absurd c327 (by decide)) (fun c327 => ?_)
        refine q_aload_n rfl rfl rfl ?_
        refine q_lload_n rfl rfl rfl ?_
        refine q_nV1 rfl rfl (Or.inl rfl) rfl rfl rfl (by decide) rfl ⟨rfl, rfl⟩ rfl ?_
        change PQ _ _ _ mm_X6_someFailed 0 [.ref 7, .long 0, pm_un, pm_un] [] _ _ 0 0 _
        refine q_iconst rfl rfl ?_
        refine q_ist3n rfl rfl rfl rfl ?_
        refine q_iload_n rfl rfl rfl ?_
        refine q_aload_n rfl rfl rfl ?_
        refine q_getf rfl rfl (by decide) rfl rfl ?_
        refine q_getf rfl rfl (by decide) (FW_1 S hW) rfl ?_
        refine q_icge rfl rfl (fun c328 => absurd c328 (by decide)) (fun c328 => ?_)
        refine q_lload_n rfl rfl rfl ?_
        refine q_iload_n rfl rfl rfl ?_
        refine q_nS2 rfl rfl (Or.inl rfl) rfl rfl ⟨rfl, rfl⟩ rfl ?_
        change PQ _ _ _ mm_X0_position 0 [.long 0, pm_un, .int 0] [] _ _ 0 0 _
        refine q_lload_n rfl rfl rfl ?_
        refine q_bipush rfl rfl ?_
        refine q_iload_n rfl rfl rfl ?_
        refine q_imul rfl rfl (q_tn (z := 0) rfl ?_)
        refine q_lushr rfl rfl (q_tnl (z := 0) rfl ?_)
        refine q_l2i rfl rfl (q_tn (z := 0) rfl ?_)
        refine q_bipush rfl rfl ?_
        refine q_iand rfl rfl (q_tn (z := 0) rfl ?_)
        refine q_iret rfl rfl trivial ?_
        refine ⟨_, rfl, ?_⟩
        refine q_bipush rfl rfl ?_
        refine q_icne rfl rfl (fun c329 => absurd c329 (by decide)) (fun c329 => ?_)
        refine q_icc3 (z := 1) rfl rfl rfl rfl rfl ?_
        refine q_goto rfl ?_
        refine q_iload_n rfl rfl rfl ?_
        refine q_aload_n rfl rfl rfl ?_
        refine q_getf rfl rfl (by decide) rfl rfl ?_
        refine q_getf rfl rfl (by decide) (FW_1 S hW) rfl ?_
        refine q_icge rfl rfl (fun c330 => ?_) (fun c330 => absurd (by decide) c330)
        refine q_iconst rfl rfl ?_
        refine q_iret rfl rfl rfl ?_
        refine ⟨_, rfl, ?_⟩
        refine q_ifeq rfl rfl (fun c331 => ?_) (fun c331 => absurd (by decide) c331)
        refine q_iconst rfl rfl ?_
        refine q_ior rfl rfl (q_tn (z := 0) rfl ?_)
        refine q_putf rfl rfl (by decide) rfl (by decide) rfl rfl ?_
        refine q_aload_n rfl rfl rfl ?_
        refine q_getf rfl rfl (by decide) rfl rfl ?_
        refine q_iload_n rfl rfl rfl ?_
        refine q_iald rfl rfl (by decide) rfl (by decide) (q_tn (z := 1) rfl ?_)
        refine q_iconst rfl rfl ?_
        refine q_icne rfl rfl (fun c332 => ?_) (fun c332 => absurd (by decide) c332)
        refine q_aload_n rfl rfl rfl ?_
        refine q_lload_n rfl rfl rfl ?_
        refine q_nV1v rfl rfl (Or.inl rfl) rfl rfl rfl (by decide) rfl ⟨rfl, rfl⟩ rfl ?_
        change PQ _ _ _ mm_X7_noteEnd 0 [.ref 16, .long 0, pm_un, pm_un] [] _ _ 0 0 _
        refine q_iconst rfl rfl ?_
        refine q_ist3n rfl rfl rfl rfl ?_
        refine q_iload_n rfl rfl rfl ?_
        refine q_iconst rfl rfl ?_
        refine q_icge rfl rfl (fun c333 => absurd c333 (by decide)) (fun c333 => ?_)
        refine q_aload_n rfl rfl rfl ?_
        refine q_dupr rfl rfl ?_
        refine q_getf rfl rfl (by decide) rfl rfl ?_
        refine q_lconst rfl rfl ?_
        refine q_bipush rfl rfl ?_
        refine q_iload_n rfl rfl rfl ?_
        refine q_imul rfl rfl (q_tn (z := 0) rfl ?_)
        refine q_lload_n rfl rfl rfl ?_
        refine q_iload_n rfl rfl rfl ?_
        refine q_nS2 rfl rfl (Or.inl rfl) rfl rfl ⟨rfl, rfl⟩ rfl ?_
        change PQ _ _ _ mm_X0_place 0 [.long 0, pm_un, .int 0] [] _ _ 0 0 _
        refine q_lload_n rfl rfl rfl ?_
        refine q_bipush rfl rfl ?_
        refine q_iconst rfl rfl ?_
        refine q_iload_n rfl rfl rfl ?_
        refine q_imul rfl rfl (q_tn (z := 0) rfl ?_)
        refine q_iadd rfl rfl (q_tn (z := 36) rfl ?_)
        refine q_lushr rfl rfl (q_tnl (z := 0) rfl ?_)
        refine q_l2i rfl rfl (q_tn (z := 0) rfl ?_)
        refine q_bipush rfl rfl ?_
        refine q_iand rfl rfl (q_tn (z := 0) rfl ?_)
        refine q_iret rfl rfl trivial ?_
        refine ⟨_, rfl, ?_⟩
        refine q_iadd rfl rfl (q_tn (z := 0) rfl ?_)
        refine q_lshl rfl rfl (q_tnl (z := 1) rfl ?_)
        refine q_lor rfl rfl (q_tnl (z := 1) rfl ?_)
        refine q_putf rfl rfl (by decide) rfl (by decide) rfl trivial ?_
        refine q_icc3 (z := 1) rfl rfl rfl rfl rfl ?_
        refine q_goto rfl ?_
        refine q_iload_n rfl rfl rfl ?_
        refine q_iconst rfl rfl ?_
        refine q_icge rfl rfl (fun c334 => absurd c334 (by decide)) (fun c334 => ?_)
        refine q_aload_n rfl rfl rfl ?_
        refine q_dupr rfl rfl ?_
        refine q_getf rfl rfl (by decide) rfl rfl ?_
        refine q_lconst rfl rfl ?_
        refine q_bipush rfl rfl ?_
        refine q_iload_n rfl rfl rfl ?_
        refine q_imul rfl rfl (q_tn (z := 10) rfl ?_)
        refine q_lload_n rfl rfl rfl ?_
        refine q_iload_n rfl rfl rfl ?_
        refine q_nS2 rfl rfl (Or.inl rfl) rfl rfl ⟨rfl, rfl⟩ rfl ?_
        change PQ _ _ _ mm_X0_place 0 [.long 0, pm_un, .int 1] [] _ _ 0 0 _
        refine q_lload_n rfl rfl rfl ?_
        refine q_bipush rfl rfl ?_
        refine q_iconst rfl rfl ?_
        refine q_iload_n rfl rfl rfl ?_
        refine q_imul rfl rfl (q_tn (z := 4) rfl ?_)
        refine q_iadd rfl rfl (q_tn (z := 40) rfl ?_)
        refine q_lushr rfl rfl (q_tnl (z := 0) rfl ?_)
        refine q_l2i rfl rfl (q_tn (z := 0) rfl ?_)
        refine q_bipush rfl rfl ?_
        refine q_iand rfl rfl (q_tn (z := 0) rfl ?_)
        refine q_iret rfl rfl trivial ?_
        refine ⟨_, rfl, ?_⟩
        refine q_iadd rfl rfl (q_tn (z := 10) rfl ?_)
        refine q_lshl rfl rfl (q_tnl (z := 1024) rfl ?_)
        refine q_lor rfl rfl (q_tnl (z := 1025) rfl ?_)
        refine q_putf rfl rfl (by decide) rfl (by decide) rfl trivial ?_
        refine q_icc3 (z := 2) rfl rfl rfl rfl rfl ?_
        refine q_goto rfl ?_
        refine q_iload_n rfl rfl rfl ?_
        refine q_iconst rfl rfl ?_
        refine q_icge rfl rfl (fun c335 => absurd c335 (by decide)) (fun c335 => ?_)
        refine q_aload_n rfl rfl rfl ?_
        refine q_dupr rfl rfl ?_
        refine q_getf rfl rfl (by decide) rfl rfl ?_
        refine q_lconst rfl rfl ?_
        refine q_bipush rfl rfl ?_
        refine q_iload_n rfl rfl rfl ?_
        refine q_imul rfl rfl (q_tn (z := 20) rfl ?_)
        refine q_lload_n rfl rfl rfl ?_
        refine q_iload_n rfl rfl rfl ?_
        refine q_nS2 rfl rfl (Or.inl rfl) rfl rfl ⟨rfl, rfl⟩ rfl ?_
        change PQ _ _ _ mm_X0_place 0 [.long 0, pm_un, .int 2] [] _ _ 0 0 _
        refine q_lload_n rfl rfl rfl ?_
        refine q_bipush rfl rfl ?_
        refine q_iconst rfl rfl ?_
        refine q_iload_n rfl rfl rfl ?_
        refine q_imul rfl rfl (q_tn (z := 8) rfl ?_)
        refine q_iadd rfl rfl (q_tn (z := 44) rfl ?_)
        refine q_lushr rfl rfl (q_tnl (z := 0) rfl ?_)
        refine q_l2i rfl rfl (q_tn (z := 0) rfl ?_)
        refine q_bipush rfl rfl ?_
        refine q_iand rfl rfl (q_tn (z := 0) rfl ?_)
        refine q_iret rfl rfl trivial ?_
        refine ⟨_, rfl, ?_⟩
        refine q_iadd rfl rfl (q_tn (z := 20) rfl ?_)
        refine q_lshl rfl rfl (q_tnl (z := 1048576) rfl ?_)
        refine q_lor rfl rfl (q_tnl (z := 1049601) rfl ?_)
        refine q_putf rfl rfl (by decide) rfl (by decide) rfl trivial ?_
        refine q_icc3 (z := 3) rfl rfl rfl rfl rfl ?_
        refine q_goto rfl ?_
        refine q_iload_n rfl rfl rfl ?_
        refine q_iconst rfl rfl ?_
        refine q_icge rfl rfl (fun c336 => absurd c336 (by decide)) (fun c336 => ?_)
        refine q_aload_n rfl rfl rfl ?_
        refine q_dupr rfl rfl ?_
        refine q_getf rfl rfl (by decide) rfl rfl ?_
        refine q_lconst rfl rfl ?_
        refine q_bipush rfl rfl ?_
        refine q_iload_n rfl rfl rfl ?_
        refine q_imul rfl rfl (q_tn (z := 30) rfl ?_)
        refine q_lload_n rfl rfl rfl ?_
        refine q_iload_n rfl rfl rfl ?_
        refine q_nS2 rfl rfl (Or.inl rfl) rfl rfl ⟨rfl, rfl⟩ rfl ?_
        change PQ _ _ _ mm_X0_place 0 [.long 0, pm_un, .int 3] [] _ _ 0 0 _
        refine q_lload_n rfl rfl rfl ?_
        refine q_bipush rfl rfl ?_
        refine q_iconst rfl rfl ?_
        refine q_iload_n rfl rfl rfl ?_
        refine q_imul rfl rfl (q_tn (z := 12) rfl ?_)
        refine q_iadd rfl rfl (q_tn (z := 48) rfl ?_)
        refine q_lushr rfl rfl (q_tnl (z := 0) rfl ?_)
        refine q_l2i rfl rfl (q_tn (z := 0) rfl ?_)
        refine q_bipush rfl rfl ?_
        refine q_iand rfl rfl (q_tn (z := 0) rfl ?_)
        refine q_iret rfl rfl trivial ?_
        refine ⟨_, rfl, ?_⟩
        refine q_iadd rfl rfl (q_tn (z := 30) rfl ?_)
        refine q_lshl rfl rfl (q_tnl (z := 1073741824) rfl ?_)
        refine q_lor rfl rfl (q_tnl (z := 1074791425) rfl ?_)
        refine q_putf rfl rfl (by decide) rfl (by decide) rfl trivial ?_
        refine q_icc3 (z := 4) rfl rfl rfl rfl rfl ?_
        refine q_goto rfl ?_
        refine q_iload_n rfl rfl rfl ?_
        refine q_iconst rfl rfl ?_
        refine q_icge rfl rfl (fun c337 => ?_) (fun c337 => absurd (by decide) c337)
        refine q_ret rfl rfl ?_
        refine ⟨rfl, ?_⟩
        refine q_ret rfl rfl ?_
        refine ⟨rfl, ?_⟩
        refine q_aload_n rfl rfl rfl ?_
        refine q_getf rfl rfl (by decide) rfl rfl ?_
        refine q_ifne rfl rfl (fun c338 => ?_) (fun c338 => absurd (by decide) c338)
        refine q_iload_n rfl rfl rfl ?_
        refine q_ifeq rfl rfl (fun c339 => ?_) (fun c339 => absurd (by decide) c339)
        refine q_icc3 (z := 1) rfl rfl rfl rfl rfl ?_
        refine q_goto rfl ?_
        refine q_iload_n rfl rfl rfl ?_
        refine q_sipush rfl rfl ?_
        refine q_icge rfl rfl (fun c340 => absurd c340 (by decide)) (fun c340 => ?_)
        refine q_iload_n rfl rfl rfl ?_
        refine q_aload_n rfl rfl rfl ?_
        refine q_getf rfl rfl (by decide) rfl rfl ?_
        refine q_icge rfl rfl (fun c341 => ?_) (fun c341 => absurd (by decide) c341)
        refine q_ret rfl rfl ?_
        refine ⟨rfl, ?_⟩
        refine q_aload_n rfl rfl rfl ?_
        refine q_getf rfl rfl (by decide) (FW_0 S hW) rfl ?_
        refine q_iconst rfl rfl ?_
        refine q_putf rfl rfl (by decide) rfl (by decide) rfl trivial ?_
        refine q_aload_n rfl rfl rfl ?_
        refine q_getf rfl rfl (by decide) (FW_0 S hW) rfl ?_
        refine q_iload_n rfl rfl rfl ?_
        refine q_aload_n rfl rfl rfl ?_
        refine q_getf rfl rfl (by decide) rfl rfl ?_
        refine q_ifeq rfl rfl (fun c342 => ?_) (fun c342 => absurd (by decide) c342)
        refine q_aload_n rfl rfl rfl ?_
        refine q_getf rfl rfl (by decide) rfl rfl ?_
        refine q_iast rfl rfl (by decide) rfl (by decide) ?_
        refine q_aload_n rfl rfl rfl ?_
        refine q_getf rfl rfl (by decide) (FW_0 S hW) rfl ?_
        refine q_iload_n rfl rfl rfl ?_
        refine q_aload_n rfl rfl rfl ?_
        refine q_getf rfl rfl (by decide) rfl rfl ?_
        refine q_last rfl rfl (by decide) rfl (by decide) ?_
        refine q_aload_n rfl rfl rfl ?_
        refine q_getf rfl rfl (by decide) (FW_0 S hW) rfl ?_
        refine q_iload_n rfl rfl rfl ?_
        refine q_iald rfl rfl (by decide) rfl (by decide) (q_tn (z := 1) rfl ?_)
        refine q_iret rfl rfl trivial ?_
        refine ⟨_, rfl, ?_⟩
        refine q_bipush rfl rfl ?_
        refine q_icne rfl rfl (fun c343 => absurd c343 (by decide)) (fun c343 => ?_)
        refine q_iconst rfl rfl ?_
        refine q_ior rfl rfl (q_tn (z := 0) rfl ?_)
        refine q_ist1n rfl rfl rfl rfl ?_
        refine q_icc2 (z := 5) rfl rfl rfl rfl rfl ?_
        refine q_goto rfl ?_
        refine q_iload_n rfl rfl rfl ?_
        refine q_iconst rfl rfl ?_
        refine q_icge rfl rfl (fun c344 => ?_) (fun c344 => absurd (by decide) c344)
        refine q_iload_n rfl rfl rfl ?_
        refine q_iret rfl rfl rfl ?_
        refine ⟨_, rfl, ?_⟩
        refine q_ifeq rfl rfl (fun c345 => ?_) (fun c345 => absurd (by decide) c345)
        refine q_aload_n rfl rfl rfl ?_
        refine q_getf rfl rfl (by decide) (FW_0 S hW) rfl ?_
        refine q_aload_n rfl rfl rfl ?_
        refine q_getf rfl rfl (by decide) (FW_0 S hW) rfl ?_
        refine q_nV1 rfl rfl (Or.inl rfl) rfl rfl rfl (by decide) (FW_42 S hW) ⟨rfl, rfl⟩ rfl ?_
        change PQ _ _ _ mm_X3_cheapest 0 [.ref 42, .ref 45, pm_un, pm_un, pm_un, pm_un] [] _ _ 0 0 _
        refine q_bipush rfl rfl ?_
        refine q_ist2n rfl rfl rfl rfl ?_
        refine q_iconst rfl rfl ?_
        refine q_ist3n rfl rfl rfl rfl ?_
        refine q_iconst rfl rfl ?_
        refine q_ist4 rfl rfl rfl rfl ?_
        refine q_iload rfl rfl rfl ?_
        refine q_aload_n rfl rfl rfl ?_
        refine q_alen rfl rfl (by decide) rfl rfl (q_tn (z := 5) rfl ?_)
        refine q_icge rfl rfl (fun c346 => absurd c346 (by decide)) (fun c346 => ?_)
        refine q_aload_n rfl rfl rfl ?_
        refine q_aload_n rfl rfl rfl ?_
        refine q_iload rfl rfl rfl ?_
        refine q_lald rfl rfl (by decide) rfl (by decide) (q_tnl (z := 1074791425) rfl ?_)
        refine q_nV1 rfl rfl (Or.inl rfl) rfl rfl rfl (by decide) (FW_42 S hW) ⟨rfl, rfl⟩ rfl ?_
        change PQ _ _ _ mm_X3_costBy 0 [.ref 42, .long 1074791425, pm_un] [] _ _ 0 0 _
        refine q_lload_n rfl rfl rfl ?_
        refine q_aload_n rfl rfl rfl ?_
        refine q_getf rfl rfl (by decide) (FW_42 S hW) rfl ?_
        refine q_lxor rfl rfl (q_tnl (z := 1074791425) rfl ?_)
        refine q_aload_n rfl rfl rfl ?_
        refine q_getf rfl rfl (by decide) (FW_42 S hW) rfl ?_
        refine q_land rfl rfl (q_tnl (z := 0) rfl ?_)
        refine q_nS1 rfl rfl (Or.inl rfl) rfl rfl ⟨rfl, rfl⟩ rfl ?_
        change PQ _ _ _ mm_J13_bitCount_95d88 0 [.long 0, pm_un] [] _ _ 0 0 _
        refine q_lload_n rfl rfl rfl ?_
        refine q_lload_n rfl rfl rfl ?_
        refine q_iconst rfl rfl ?_
        refine q_lushr rfl rfl (q_tnl (z := 0) rfl ?_)
        refine q_ldc2 rfl rfl ?_
        refine q_land rfl rfl (q_tnl (z := 0) rfl ?_)
        refine q_lsub rfl rfl (q_tnl (z := 0) rfl ?_)
        refine q_lst0n rfl rfl rfl ?_
        refine q_lload_n rfl rfl rfl ?_
        refine q_ldc2 rfl rfl ?_
        refine q_land rfl rfl (q_tnl (z := 0) rfl ?_)
        refine q_lload_n rfl rfl rfl ?_
        refine q_iconst rfl rfl ?_
        refine q_lushr rfl rfl (q_tnl (z := 0) rfl ?_)
        refine q_ldc2 rfl rfl ?_
        refine q_land rfl rfl (q_tnl (z := 0) rfl ?_)
        refine q_ladd rfl rfl (q_tnl (z := 0) rfl ?_)
        refine q_lst0n rfl rfl rfl ?_
        refine q_lload_n rfl rfl rfl ?_
        refine q_lload_n rfl rfl rfl ?_
        refine q_iconst rfl rfl ?_
        refine q_lushr rfl rfl (q_tnl (z := 0) rfl ?_)
        refine q_ladd rfl rfl (q_tnl (z := 0) rfl ?_)
        refine q_ldc2 rfl rfl ?_
        refine q_land rfl rfl (q_tnl (z := 0) rfl ?_)
        refine q_lst0n rfl rfl rfl ?_
        refine q_lload_n rfl rfl rfl ?_
        refine q_lload_n rfl rfl rfl ?_
        refine q_bipush rfl rfl ?_
        refine q_lushr rfl rfl (q_tnl (z := 0) rfl ?_)
        refine q_ladd rfl rfl (q_tnl (z := 0) rfl ?_)
        refine q_lst0n rfl rfl rfl ?_
        refine q_lload_n rfl rfl rfl ?_
        refine q_lload_n rfl rfl rfl ?_
        refine q_bipush rfl rfl ?_
        refine q_lushr rfl rfl (q_tnl (z := 0) rfl ?_)
        refine q_ladd rfl rfl (q_tnl (z := 0) rfl ?_)
        refine q_lst0n rfl rfl rfl ?_
        refine q_lload_n rfl rfl rfl ?_
        refine q_lload_n rfl rfl rfl ?_
        refine q_bipush rfl rfl ?_
        refine q_lushr rfl rfl (q_tnl (z := 0) rfl ?_)
        refine q_ladd rfl rfl (q_tnl (z := 0) rfl ?_)
        refine q_lst0n rfl rfl rfl ?_
        refine q_lload_n rfl rfl rfl ?_
        refine q_l2i rfl rfl (q_tn (z := 0) rfl ?_)
        refine q_bipush rfl rfl ?_
        refine q_iand rfl rfl (q_tn (z := 0) rfl ?_)
        refine q_iret rfl rfl trivial ?_
        refine ⟨_, rfl, ?_⟩
        refine q_iret rfl rfl trivial ?_
        refine ⟨_, rfl, ?_⟩
        refine q_ist5 rfl rfl rfl rfl ?_
        refine q_iload rfl rfl rfl ?_
        refine q_iload_n rfl rfl rfl ?_
        refine q_icge rfl rfl (fun c347 => absurd c347 (by decide)) (fun c347 => ?_)
        refine q_iload rfl rfl rfl ?_
        refine q_ist2n rfl rfl rfl rfl ?_
        refine q_iconst rfl rfl ?_
        refine q_ist3n rfl rfl rfl rfl ?_
        refine q_iload rfl rfl rfl ?_
        refine q_iload_n rfl rfl rfl ?_
        refine q_icne rfl rfl (fun c348 => ?_) (fun c348 => absurd (by decide) c348)
        refine q_iload_n rfl rfl rfl ?_
        refine q_iconst rfl rfl ?_
        refine q_iload rfl rfl rfl ?_
        refine q_ishl rfl rfl (q_tn (z := 1) rfl ?_)
        refine q_ior rfl rfl (q_tn (z := 1) rfl ?_)
        refine q_ist3n rfl rfl rfl rfl ?_
        refine q_icc4 (z := 1) rfl rfl rfl rfl rfl ?_
        refine q_goto rfl ?_
        refine q_iload rfl rfl rfl ?_
        refine q_aload_n rfl rfl rfl ?_
        refine q_alen rfl rfl (by decide) rfl rfl (q_tn (z := 5) rfl ?_)
        refine q_icge rfl rfl (fun c349 => absurd c349 (by decide)) (fun c349 => ?_)
        refine q_aload_n rfl rfl rfl ?_
        refine q_aload_n rfl rfl rfl ?_
        refine q_iload rfl rfl rfl ?_
        refine q_lald rfl rfl (by decide) rfl (by decide) (q_tnl (z := 1074791425) rfl ?_)
        refine q_nV1 rfl rfl (Or.inl rfl) rfl rfl rfl (by decide) (FW_42 S hW) ⟨rfl, rfl⟩ rfl ?_
        change PQ _ _ _ mm_X3_costBy 0 [.ref 42, .long 1074791425, pm_un] [] _ _ 0 0 _
        refine q_lload_n rfl rfl rfl ?_
        refine q_aload_n rfl rfl rfl ?_
        refine q_getf rfl rfl (by decide) (FW_42 S hW) rfl ?_
        refine q_lxor rfl rfl (q_tnl (z := 1074791425) rfl ?_)
        refine q_aload_n rfl rfl rfl ?_
        refine q_getf rfl rfl (by decide) (FW_42 S hW) rfl ?_
        refine q_land rfl rfl (q_tnl (z := 0) rfl ?_)
        refine q_nS1 rfl rfl (Or.inl rfl) rfl rfl ⟨rfl, rfl⟩ rfl ?_
        change PQ _ _ _ mm_J13_bitCount_95d88 0 [.long 0, pm_un] [] _ _ 0 0 _
        refine q_lload_n rfl rfl rfl ?_
        refine q_lload_n rfl rfl rfl ?_
        refine q_iconst rfl rfl ?_
        refine q_lushr rfl rfl (q_tnl (z := 0) rfl ?_)
        refine q_ldc2 rfl rfl ?_
        refine q_land rfl rfl (q_tnl (z := 0) rfl ?_)
        refine q_lsub rfl rfl (q_tnl (z := 0) rfl ?_)
        refine q_lst0n rfl rfl rfl ?_
        refine q_lload_n rfl rfl rfl ?_
        refine q_ldc2 rfl rfl ?_
        refine q_land rfl rfl (q_tnl (z := 0) rfl ?_)
        refine q_lload_n rfl rfl rfl ?_
        refine q_iconst rfl rfl ?_
        refine q_lushr rfl rfl (q_tnl (z := 0) rfl ?_)
        refine q_ldc2 rfl rfl ?_
        refine q_land rfl rfl (q_tnl (z := 0) rfl ?_)
        refine q_ladd rfl rfl (q_tnl (z := 0) rfl ?_)
        refine q_lst0n rfl rfl rfl ?_
        refine q_lload_n rfl rfl rfl ?_
        refine q_lload_n rfl rfl rfl ?_
        refine q_iconst rfl rfl ?_
        refine q_lushr rfl rfl (q_tnl (z := 0) rfl ?_)
        refine q_ladd rfl rfl (q_tnl (z := 0) rfl ?_)
        refine q_ldc2 rfl rfl ?_
        refine q_land rfl rfl (q_tnl (z := 0) rfl ?_)
        refine q_lst0n rfl rfl rfl ?_
        refine q_lload_n rfl rfl rfl ?_
        refine q_lload_n rfl rfl rfl ?_
        refine q_bipush rfl rfl ?_
        refine q_lushr rfl rfl (q_tnl (z := 0) rfl ?_)
        refine q_ladd rfl rfl (q_tnl (z := 0) rfl ?_)
        refine q_lst0n rfl rfl rfl ?_
        refine q_lload_n rfl rfl rfl ?_
        refine q_lload_n rfl rfl rfl ?_
        refine q_bipush rfl rfl ?_
        refine q_lushr rfl rfl (q_tnl (z := 0) rfl ?_)
        refine q_ladd rfl rfl (q_tnl (z := 0) rfl ?_)
        refine q_lst0n rfl rfl rfl ?_
        refine q_lload_n rfl rfl rfl ?_
        refine q_lload_n rfl rfl rfl ?_
        refine q_bipush rfl rfl ?_
        refine q_lushr rfl rfl (q_tnl (z := 0) rfl ?_)
        refine q_ladd rfl rfl (q_tnl (z := 0) rfl ?_)
        refine q_lst0n rfl rfl rfl ?_
        refine q_lload_n rfl rfl rfl ?_
        refine q_l2i rfl rfl (q_tn (z := 0) rfl ?_)
        refine q_bipush rfl rfl ?_
        refine q_iand rfl rfl (q_tn (z := 0) rfl ?_)
        refine q_iret rfl rfl trivial ?_
        refine ⟨_, rfl, ?_⟩
        refine q_iret rfl rfl trivial ?_
        refine ⟨_, rfl, ?_⟩
        refine q_ist5 rfl rfl rfl rfl ?_
        refine q_iload rfl rfl rfl ?_
        refine q_iload_n rfl rfl rfl ?_
        refine q_icge rfl rfl (fun c350 => ?_) (fun c350 => absurd (by decide) c350)
        refine q_iload rfl rfl rfl ?_
        refine q_iload_n rfl rfl rfl ?_
        refine q_icne rfl rfl (fun c351 => ?_) (fun c351 => absurd (by decide) c351)
        refine q_iload_n rfl rfl rfl ?_
        refine q_iconst rfl rfl ?_
        refine q_iload rfl rfl rfl ?_
        refine q_ishl rfl rfl (q_tn (z := 2) rfl ?_)
        refine q_ior rfl rfl (q_tn (z := 3) rfl ?_)
        refine q_ist3n rfl rfl rfl rfl ?_
        refine q_icc4 (z := 2) rfl rfl rfl rfl rfl ?_
        refine q_goto rfl ?_
        refine q_iload rfl rfl rfl ?_
        refine q_aload_n rfl rfl rfl ?_
        refine q_alen rfl rfl (by decide) rfl rfl (q_tn (z := 5) rfl ?_)
        refine q_icge rfl rfl (fun c352 => absurd c352 (by decide)) (fun c352 => ?_)
        refine q_aload_n rfl rfl rfl ?_
        refine q_aload_n rfl rfl rfl ?_
        refine q_iload rfl rfl rfl ?_
        refine q_lald rfl rfl (by decide) rfl (by decide) (q_tnl (z := 1074791425) rfl ?_)
        refine q_nV1 rfl rfl (Or.inl rfl) rfl rfl rfl (by decide) (FW_42 S hW) ⟨rfl, rfl⟩ rfl ?_
        change PQ _ _ _ mm_X3_costBy 0 [.ref 42, .long 1074791425, pm_un] [] _ _ 0 0 _
        refine q_lload_n rfl rfl rfl ?_
        refine q_aload_n rfl rfl rfl ?_
        refine q_getf rfl rfl (by decide) (FW_42 S hW) rfl ?_
        refine q_lxor rfl rfl (q_tnl (z := 1074791425) rfl ?_)
        refine q_aload_n rfl rfl rfl ?_
        refine q_getf rfl rfl (by decide) (FW_42 S hW) rfl ?_
        refine q_land rfl rfl (q_tnl (z := 0) rfl ?_)
        refine q_nS1 rfl rfl (Or.inl rfl) rfl rfl ⟨rfl, rfl⟩ rfl ?_
        change PQ _ _ _ mm_J13_bitCount_95d88 0 [.long 0, pm_un] [] _ _ 0 0 _
        refine q_lload_n rfl rfl rfl ?_
        refine q_lload_n rfl rfl rfl ?_
        refine q_iconst rfl rfl ?_
        refine q_lushr rfl rfl (q_tnl (z := 0) rfl ?_)
        refine q_ldc2 rfl rfl ?_
        refine q_land rfl rfl (q_tnl (z := 0) rfl ?_)
        refine q_lsub rfl rfl (q_tnl (z := 0) rfl ?_)
        refine q_lst0n rfl rfl rfl ?_
        refine q_lload_n rfl rfl rfl ?_
        refine q_ldc2 rfl rfl ?_
        refine q_land rfl rfl (q_tnl (z := 0) rfl ?_)
        refine q_lload_n rfl rfl rfl ?_
        refine q_iconst rfl rfl ?_
        refine q_lushr rfl rfl (q_tnl (z := 0) rfl ?_)
        refine q_ldc2 rfl rfl ?_
        refine q_land rfl rfl (q_tnl (z := 0) rfl ?_)
        refine q_ladd rfl rfl (q_tnl (z := 0) rfl ?_)
        refine q_lst0n rfl rfl rfl ?_
        refine q_lload_n rfl rfl rfl ?_
        refine q_lload_n rfl rfl rfl ?_
        refine q_iconst rfl rfl ?_
        refine q_lushr rfl rfl (q_tnl (z := 0) rfl ?_)
        refine q_ladd rfl rfl (q_tnl (z := 0) rfl ?_)
        refine q_ldc2 rfl rfl ?_
        refine q_land rfl rfl (q_tnl (z := 0) rfl ?_)
        refine q_lst0n rfl rfl rfl ?_
        refine q_lload_n rfl rfl rfl ?_
        refine q_lload_n rfl rfl rfl ?_
        refine q_bipush rfl rfl ?_
        refine q_lushr rfl rfl (q_tnl (z := 0) rfl ?_)
        refine q_ladd rfl rfl (q_tnl (z := 0) rfl ?_)
        refine q_lst0n rfl rfl rfl ?_
        refine q_lload_n rfl rfl rfl ?_
        refine q_lload_n rfl rfl rfl ?_
        refine q_bipush rfl rfl ?_
        refine q_lushr rfl rfl (q_tnl (z := 0) rfl ?_)
        refine q_ladd rfl rfl (q_tnl (z := 0) rfl ?_)
        refine q_lst0n rfl rfl rfl ?_
        refine q_lload_n rfl rfl rfl ?_
        refine q_lload_n rfl rfl rfl ?_
        refine q_bipush rfl rfl ?_
        refine q_lushr rfl rfl (q_tnl (z := 0) rfl ?_)
        refine q_ladd rfl rfl (q_tnl (z := 0) rfl ?_)
        refine q_lst0n rfl rfl rfl ?_
        refine q_lload_n rfl rfl rfl ?_
        refine q_l2i rfl rfl (q_tn (z := 0) rfl ?_)
        refine q_bipush rfl rfl ?_
        refine q_iand rfl rfl (q_tn (z := 0) rfl ?_)
        refine q_iret rfl rfl trivial ?_
        refine ⟨_, rfl, ?_⟩
        refine q_iret rfl rfl trivial ?_
        refine ⟨_, rfl, ?_⟩
        refine q_ist5 rfl rfl rfl rfl ?_
        refine q_iload rfl rfl rfl ?_
        refine q_iload_n rfl rfl rfl ?_
        refine q_icge rfl rfl (fun c353 => ?_) (fun c353 => absurd (by decide) c353)
        refine q_iload rfl rfl rfl ?_
        refine q_iload_n rfl rfl rfl ?_
        refine q_icne rfl rfl (fun c354 => ?_) (fun c354 => absurd (by decide) c354)
        refine q_iload_n rfl rfl rfl ?_
        refine q_iconst rfl rfl ?_
        refine q_iload rfl rfl rfl ?_
        refine q_ishl rfl rfl (q_tn (z := 4) rfl ?_)
        refine q_ior rfl rfl (q_tn (z := 7) rfl ?_)
        refine q_ist3n rfl rfl rfl rfl ?_
        refine q_icc4 (z := 3) rfl rfl rfl rfl rfl ?_
        refine q_goto rfl ?_
        refine q_iload rfl rfl rfl ?_
        refine q_aload_n rfl rfl rfl ?_
        refine q_alen rfl rfl (by decide) rfl rfl (q_tn (z := 5) rfl ?_)
        refine q_icge rfl rfl (fun c355 => absurd c355 (by decide)) (fun c355 => ?_)
        refine q_aload_n rfl rfl rfl ?_
        refine q_aload_n rfl rfl rfl ?_
        refine q_iload rfl rfl rfl ?_
        refine q_lald rfl rfl (by decide) rfl (by decide) (q_tnl (z := 1074791425) rfl ?_)
        refine q_nV1 rfl rfl (Or.inl rfl) rfl rfl rfl (by decide) (FW_42 S hW) ⟨rfl, rfl⟩ rfl ?_
        change PQ _ _ _ mm_X3_costBy 0 [.ref 42, .long 1074791425, pm_un] [] _ _ 0 0 _
        refine q_lload_n rfl rfl rfl ?_
        refine q_aload_n rfl rfl rfl ?_
        refine q_getf rfl rfl (by decide) (FW_42 S hW) rfl ?_
        refine q_lxor rfl rfl (q_tnl (z := 1074791425) rfl ?_)
        refine q_aload_n rfl rfl rfl ?_
        refine q_getf rfl rfl (by decide) (FW_42 S hW) rfl ?_
        refine q_land rfl rfl (q_tnl (z := 0) rfl ?_)
        refine q_nS1 rfl rfl (Or.inl rfl) rfl rfl ⟨rfl, rfl⟩ rfl ?_
        change PQ _ _ _ mm_J13_bitCount_95d88 0 [.long 0, pm_un] [] _ _ 0 0 _
        refine q_lload_n rfl rfl rfl ?_
        refine q_lload_n rfl rfl rfl ?_
        refine q_iconst rfl rfl ?_
        refine q_lushr rfl rfl (q_tnl (z := 0) rfl ?_)
        refine q_ldc2 rfl rfl ?_
        refine q_land rfl rfl (q_tnl (z := 0) rfl ?_)
        refine q_lsub rfl rfl (q_tnl (z := 0) rfl ?_)
        refine q_lst0n rfl rfl rfl ?_
        refine q_lload_n rfl rfl rfl ?_
        refine q_ldc2 rfl rfl ?_
        refine q_land rfl rfl (q_tnl (z := 0) rfl ?_)
        refine q_lload_n rfl rfl rfl ?_
        refine q_iconst rfl rfl ?_
        refine q_lushr rfl rfl (q_tnl (z := 0) rfl ?_)
        refine q_ldc2 rfl rfl ?_
        refine q_land rfl rfl (q_tnl (z := 0) rfl ?_)
        refine q_ladd rfl rfl (q_tnl (z := 0) rfl ?_)
        refine q_lst0n rfl rfl rfl ?_
        refine q_lload_n rfl rfl rfl ?_
        refine q_lload_n rfl rfl rfl ?_
        refine q_iconst rfl rfl ?_
        refine q_lushr rfl rfl (q_tnl (z := 0) rfl ?_)
        refine q_ladd rfl rfl (q_tnl (z := 0) rfl ?_)
        refine q_ldc2 rfl rfl ?_
        refine q_land rfl rfl (q_tnl (z := 0) rfl ?_)
        refine q_lst0n rfl rfl rfl ?_
        refine q_lload_n rfl rfl rfl ?_
        refine q_lload_n rfl rfl rfl ?_
        refine q_bipush rfl rfl ?_
        refine q_lushr rfl rfl (q_tnl (z := 0) rfl ?_)
        refine q_ladd rfl rfl (q_tnl (z := 0) rfl ?_)
        refine q_lst0n rfl rfl rfl ?_
        refine q_lload_n rfl rfl rfl ?_
        refine q_lload_n rfl rfl rfl ?_
        refine q_bipush rfl rfl ?_
        refine q_lushr rfl rfl (q_tnl (z := 0) rfl ?_)
        refine q_ladd rfl rfl (q_tnl (z := 0) rfl ?_)
        refine q_lst0n rfl rfl rfl ?_
        refine q_lload_n rfl rfl rfl ?_
        refine q_lload_n rfl rfl rfl ?_
        refine q_bipush rfl rfl ?_
        refine q_lushr rfl rfl (q_tnl (z := 0) rfl ?_)
        refine q_ladd rfl rfl (q_tnl (z := 0) rfl ?_)
        refine q_lst0n rfl rfl rfl ?_
        refine q_lload_n rfl rfl rfl ?_
        refine q_l2i rfl rfl (q_tn (z := 0) rfl ?_)
        refine q_bipush rfl rfl ?_
        refine q_iand rfl rfl (q_tn (z := 0) rfl ?_)
        refine q_iret rfl rfl trivial ?_
        refine ⟨_, rfl, ?_⟩
        refine q_iret rfl rfl trivial ?_
        refine ⟨_, rfl, ?_⟩
        refine q_ist5 rfl rfl rfl rfl ?_
        refine q_iload rfl rfl rfl ?_
        refine q_iload_n rfl rfl rfl ?_
        refine q_icge rfl rfl (fun c356 => ?_) (fun c356 => absurd (by decide) c356)
        refine q_iload rfl rfl rfl ?_
        refine q_iload_n rfl rfl rfl ?_
        refine q_icne rfl rfl (fun c357 => ?_) (fun c357 => absurd (by decide) c357)
        refine q_iload_n rfl rfl rfl ?_
        refine q_iconst rfl rfl ?_
        refine q_iload rfl rfl rfl ?_
        refine q_ishl rfl rfl (q_tn (z := 8) rfl ?_)
        refine q_ior rfl rfl (q_tn (z := 15) rfl ?_)
        refine q_ist3n rfl rfl rfl rfl ?_
        refine q_icc4 (z := 4) rfl rfl rfl rfl rfl ?_
        refine q_goto rfl ?_
        refine q_iload rfl rfl rfl ?_
        refine q_aload_n rfl rfl rfl ?_
        refine q_alen rfl rfl (by decide) rfl rfl (q_tn (z := 5) rfl ?_)
        refine q_icge rfl rfl (fun c358 => absurd c358 (by decide)) (fun c358 => ?_)
        refine q_aload_n rfl rfl rfl ?_
        refine q_aload_n rfl rfl rfl ?_
        refine q_iload rfl rfl rfl ?_
        refine q_lald rfl rfl (by decide) rfl (by decide) (q_tnl (z := 1074791425) rfl ?_)
        refine q_nV1 rfl rfl (Or.inl rfl) rfl rfl rfl (by decide) (FW_42 S hW) ⟨rfl, rfl⟩ rfl ?_
        change PQ _ _ _ mm_X3_costBy 0 [.ref 42, .long 1074791425, pm_un] [] _ _ 0 0 _
        refine q_lload_n rfl rfl rfl ?_
        refine q_aload_n rfl rfl rfl ?_
        refine q_getf rfl rfl (by decide) (FW_42 S hW) rfl ?_
        refine q_lxor rfl rfl (q_tnl (z := 1074791425) rfl ?_)
        refine q_aload_n rfl rfl rfl ?_
        refine q_getf rfl rfl (by decide) (FW_42 S hW) rfl ?_
        refine q_land rfl rfl (q_tnl (z := 0) rfl ?_)
        refine q_nS1 rfl rfl (Or.inl rfl) rfl rfl ⟨rfl, rfl⟩ rfl ?_
        change PQ _ _ _ mm_J13_bitCount_95d88 0 [.long 0, pm_un] [] _ _ 0 0 _
        refine q_lload_n rfl rfl rfl ?_
        refine q_lload_n rfl rfl rfl ?_
        refine q_iconst rfl rfl ?_
        refine q_lushr rfl rfl (q_tnl (z := 0) rfl ?_)
        refine q_ldc2 rfl rfl ?_
        refine q_land rfl rfl (q_tnl (z := 0) rfl ?_)
        refine q_lsub rfl rfl (q_tnl (z := 0) rfl ?_)
        refine q_lst0n rfl rfl rfl ?_
        refine q_lload_n rfl rfl rfl ?_
        refine q_ldc2 rfl rfl ?_
        refine q_land rfl rfl (q_tnl (z := 0) rfl ?_)
        refine q_lload_n rfl rfl rfl ?_
        refine q_iconst rfl rfl ?_
        refine q_lushr rfl rfl (q_tnl (z := 0) rfl ?_)
        refine q_ldc2 rfl rfl ?_
        refine q_land rfl rfl (q_tnl (z := 0) rfl ?_)
        refine q_ladd rfl rfl (q_tnl (z := 0) rfl ?_)
        refine q_lst0n rfl rfl rfl ?_
        refine q_lload_n rfl rfl rfl ?_
        refine q_lload_n rfl rfl rfl ?_
        refine q_iconst rfl rfl ?_
        refine q_lushr rfl rfl (q_tnl (z := 0) rfl ?_)
        refine q_ladd rfl rfl (q_tnl (z := 0) rfl ?_)
        refine q_ldc2 rfl rfl ?_
        refine q_land rfl rfl (q_tnl (z := 0) rfl ?_)
        refine q_lst0n rfl rfl rfl ?_
        refine q_lload_n rfl rfl rfl ?_
        refine q_lload_n rfl rfl rfl ?_
        refine q_bipush rfl rfl ?_
        refine q_lushr rfl rfl (q_tnl (z := 0) rfl ?_)
        refine q_ladd rfl rfl (q_tnl (z := 0) rfl ?_)
        refine q_lst0n rfl rfl rfl ?_
        refine q_lload_n rfl rfl rfl ?_
        refine q_lload_n rfl rfl rfl ?_
        refine q_bipush rfl rfl ?_
        as_aux_lemma =>
          refine q_lushr rfl rfl (q_tnl (z := 0) rfl ?_)
          refine q_ladd rfl rfl (q_tnl (z := 0) rfl ?_)
          refine q_lst0n rfl rfl rfl ?_
          refine q_lload_n rfl rfl rfl ?_
          refine q_lload_n rfl rfl rfl ?_
          refine q_bipush rfl rfl ?_
          refine q_lushr rfl rfl (q_tnl (z := 0) rfl ?_)
          refine q_ladd rfl rfl (q_tnl (z := 0) rfl ?_)
          refine q_lst0n rfl rfl rfl ?_
          refine q_lload_n rfl rfl rfl ?_
          refine q_l2i rfl rfl (q_tn (z := 0) rfl ?_)
          refine q_bipush rfl rfl ?_
          refine q_iand rfl rfl (q_tn (z := 0) rfl ?_)
          refine q_iret rfl rfl trivial ?_
          refine ⟨_, rfl, ?_⟩
          refine q_iret rfl rfl trivial ?_
          refine ⟨_, rfl, ?_⟩
          refine q_ist5 rfl rfl rfl rfl ?_
          refine q_iload rfl rfl rfl ?_
          refine q_iload_n rfl rfl rfl ?_
          refine q_icge rfl rfl (fun c359 => ?_) (fun c359 => absurd (by decide) c359)
          refine q_iload rfl rfl rfl ?_
          refine q_iload_n rfl rfl rfl ?_
          refine q_icne rfl rfl (fun c360 => ?_) (fun c360 => absurd (by decide) c360)
          refine q_iload_n rfl rfl rfl ?_
          refine q_iconst rfl rfl ?_
          refine q_iload rfl rfl rfl ?_
          refine q_ishl rfl rfl (q_tn (z := 16) rfl ?_)
          refine q_ior rfl rfl (q_tn (z := 31) rfl ?_)
          refine q_ist3n rfl rfl rfl rfl ?_
          refine q_icc4 (z := 5) rfl rfl rfl rfl rfl ?_
          refine q_goto rfl ?_
          refine q_iload rfl rfl rfl ?_
          refine q_aload_n rfl rfl rfl ?_
          refine q_alen rfl rfl (by decide) rfl rfl (q_tn (z := 5) rfl ?_)
          refine q_icge rfl rfl (fun c361 => ?_) (fun c361 => absurd (by decide) c361)
          refine q_iload_n rfl rfl rfl ?_
          refine q_iret rfl rfl trivial ?_
          refine ⟨_, rfl, ?_⟩
          refine q_iret rfl rfl trivial ?_
          exact hK _ ⟨rfl, rfl, rfl, rfl, rfl, rfl, rfl, rfl, rfl, rfl, rfl, rfl, rfl, rfl, rfl, rfl, rfl, rfl, rfl, rfl, rfl, rfl, rfl, rfl, rfl, rfl, rfl, rfl, rfl, rfl, rfl, rfl, rfl, rfl, rfl, rfl⟩
end TR
