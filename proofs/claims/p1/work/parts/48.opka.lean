section TR
variable {EX : pm_M → pm_C → (pm_C → Prop) → Prop} {xs : Nat → Int32} {K : q_K}
set_option maxHeartbeats 40000000 in
set_option maxRecDepth 20000 in
theorem t_x22 {K : q_K} {S : Nat → pm_E} (hW : FW S) (hK : ∀ T, FM S T → K (some (.int 0)) T 82) : PQ (j_SL 6) (j_SV xs) j_EX mm_X11_next 0 [.ref 0] [] S 82 0 0 K := by
  refine q_aload_n rfl rfl rfl ?_
  refine q_getf rfl rfl (by decide) (FW_0 S hW) rfl ?_
  refine q_nV0 rfl rfl (Or.inl rfl) rfl rfl rfl (by decide) (FW_42 S hW) ⟨rfl, rfl⟩ rfl ?_
  change PQ _ _ _ mm_X3_heard 0 [.ref 42] [] _ _ 0 0 _
  refine q_aload_n rfl rfl rfl ?_
  refine q_getf rfl rfl (by decide) (FW_42 S hW) rfl ?_
  refine q_nS1 rfl rfl (Or.inl rfl) rfl rfl ⟨rfl, rfl⟩ rfl ?_
  change PQ _ _ _ mm_J13_bitCount_95d88 0 [.long 0, pm_un] [] _ _ 0 0 _
  refine q_lload_n rfl rfl rfl ?_
  refine q_lload_n rfl rfl rfl ?_
  refine q_iconst rfl rfl ?_
  refine q_lushr rfl rfl (q_tnl (z := 0) rfl ?_)
  refine q_ldc2 rfl rfl ?_
  refine q_land rfl rfl (q_tnl (z := 0) rfl ?_)
  refine q_lsub rfl rfl (q_tnl (z := 0) rfl ?_)
  refine q_lst0n rfl rfl rfl ?_
  refine q_lload_n rfl rfl rfl ?_
  refine q_ldc2 rfl rfl ?_
  refine q_land rfl rfl (q_tnl (z := 0) rfl ?_)
  refine q_lload_n rfl rfl rfl ?_
  refine q_iconst rfl rfl ?_
  refine q_lushr rfl rfl (q_tnl (z := 0) rfl ?_)
  refine q_ldc2 rfl rfl ?_
  refine q_land rfl rfl (q_tnl (z := 0) rfl ?_)
  refine q_ladd rfl rfl (q_tnl (z := 0) rfl ?_)
  refine q_lst0n rfl rfl rfl ?_
  refine q_lload_n rfl rfl rfl ?_
  refine q_lload_n rfl rfl rfl ?_
  refine q_iconst rfl rfl ?_
  refine q_lushr rfl rfl (q_tnl (z := 0) rfl ?_)
  refine q_ladd rfl rfl (q_tnl (z := 0) rfl ?_)
  refine q_ldc2 rfl rfl ?_
  refine q_land rfl rfl (q_tnl (z := 0) rfl ?_)
  refine q_lst0n rfl rfl rfl ?_
  refine q_lload_n rfl rfl rfl ?_
  refine q_lload_n rfl rfl rfl ?_
  refine q_bipush rfl rfl ?_
  refine q_lushr rfl rfl (q_tnl (z := 0) rfl ?_)
  refine q_ladd rfl rfl (q_tnl (z := 0) rfl ?_)
  refine q_lst0n rfl rfl rfl ?_
  refine q_lload_n rfl rfl rfl ?_
  refine q_lload_n rfl rfl rfl ?_
  refine q_bipush rfl rfl ?_
  refine q_lushr rfl rfl (q_tnl (z := 0) rfl ?_)
  refine q_ladd rfl rfl (q_tnl (z := 0) rfl ?_)
  refine q_lst0n rfl rfl rfl ?_
  refine q_lload_n rfl rfl rfl ?_
  refine q_lload_n rfl rfl rfl ?_
  refine q_bipush rfl rfl ?_
  refine q_lushr rfl rfl (q_tnl (z := 0) rfl ?_)
  refine q_ladd rfl rfl (q_tnl (z := 0) rfl ?_)
  refine q_lst0n rfl rfl rfl ?_
  refine q_lload_n rfl rfl rfl ?_
  refine q_l2i rfl rfl (q_tn (z := 0) rfl ?_)
  refine q_bipush rfl rfl ?_
  refine q_iand rfl rfl (q_tn (z := 0) rfl ?_)
  refine q_iret rfl rfl trivial ?_
  refine ⟨_, rfl, ?_⟩
  refine q_iret rfl rfl trivial ?_
  refine ⟨_, rfl, ?_⟩
  refine q_bipush rfl rfl ?_
  refine q_icne rfl rfl (fun c1 => absurd c1 (by decide)) (fun c1 => ?_)
  refine q_aload_n rfl rfl rfl ?_
  refine q_nV0 rfl rfl (Or.inl rfl) rfl rfl rfl (by decide) (FW_0 S hW) ⟨rfl, rfl⟩ rfl ?_
  change PQ _ _ _ mm_X11_someSpent 0 [.ref 0, pm_un, pm_un] [] _ _ 0 0 _
  refine q_iconst rfl rfl ?_
  refine q_ist1n rfl rfl rfl rfl ?_
  refine q_iconst rfl rfl ?_
  refine q_ist2n rfl rfl rfl rfl ?_
  refine q_iload_n rfl rfl rfl ?_
  refine q_iconst rfl rfl ?_
  refine q_icge rfl rfl (fun c2 => absurd c2 (by decide)) (fun c2 => ?_)
  refine q_iload_n rfl rfl rfl ?_
  refine q_aload_n rfl rfl rfl ?_
  refine q_iload_n rfl rfl rfl ?_
  refine q_nV1 rfl rfl (Or.inl rfl) rfl rfl rfl (by decide) (FW_0 S hW) ⟨rfl, rfl⟩ rfl ?_
  change PQ _ _ _ mm_X11_sizeOf 0 [.ref 0, .int 0, pm_un] [] _ _ 0 0 _
  refine q_aload_n rfl rfl rfl ?_
  refine q_getf rfl rfl (by decide) (FW_0 S hW) rfl ?_
  refine q_iload_n rfl rfl rfl ?_
  refine q_iald rfl rfl (by decide) (FW_44 S hW) (by decide) (q_tn (z := 0) rfl ?_)
  refine q_ifne rfl rfl (fun c3 => ?_) (fun c3 => absurd (by decide) c3)
  refine q_iload_n rfl rfl rfl ?_
  refine q_ifne rfl rfl (fun c4 => ?_) (fun c4 => absurd (by decide) c4)
  refine q_aload_n rfl rfl rfl ?_
  refine q_getf rfl rfl (by decide) (FW_0 S hW) rfl ?_
  refine q_goto rfl ?_
  refine q_ast2n rfl rfl rfl rfl ?_
  refine q_aload_n rfl rfl rfl ?_
  refine q_getf rfl rfl (by decide) (FW_0 S hW) rfl ?_
  refine q_iload_n rfl rfl rfl ?_
  refine q_putf rfl rfl (by decide) (FW_7 S hW) (by decide) rfl trivial ?_
  refine q_aload_n rfl rfl rfl ?_
  refine q_aload_n rfl rfl rfl ?_
  refine q_getf rfl rfl (by decide) (FW_0 S hW) rfl ?_
  refine q_iconst rfl rfl ?_
  refine q_nV2v rfl rfl (Or.inl rfl) rfl rfl rfl (by decide) (FW_8 S hW) ⟨rfl, rfl⟩ rfl ?_
  change PQ _ _ _ mm_X7_explore 0 [.ref 8, .ref 7, .int 0, pm_un] [] _ _ 0 0 _
  refine q_aload_n rfl rfl rfl ?_
  refine q_nV0v rfl rfl (Or.inl rfl) rfl rfl rfl (by decide) (FW_8 S hW) ⟨rfl, rfl⟩ rfl ?_
  change PQ _ _ _ mm_X7_clear 0 [.ref 8, pm_un] [] _ _ 0 0 _
  refine q_iconst rfl rfl ?_
  refine q_ist1n rfl rfl rfl rfl ?_
  refine q_iload_n rfl rfl rfl ?_
  refine q_aload_n rfl rfl rfl ?_
  refine q_getf rfl rfl (by decide) (FW_8 S hW) rfl ?_
  refine q_icge rfl rfl (fun c5 => ?_) (fun c5 => absurd (by decide) c5)
  refine q_aload_n rfl rfl rfl ?_
  refine q_iconst rfl rfl ?_
  refine q_putf rfl rfl (by decide) (FW_8 S hW) (by decide) rfl trivial ?_
  refine q_aload_n rfl rfl rfl ?_
  refine q_iconst rfl rfl ?_
  refine q_putf rfl rfl (by decide) rfl (by decide) rfl rfl ?_
  refine q_aload_n rfl rfl rfl ?_
  refine q_iconst rfl rfl ?_
  refine q_putf rfl rfl (by decide) rfl (by decide) rfl rfl ?_
  refine q_aload_n rfl rfl rfl ?_
  refine q_lconst rfl rfl ?_
  refine q_putf rfl rfl (by decide) rfl (by decide) rfl trivial ?_
  refine q_ret rfl rfl ?_
  refine ⟨rfl, ?_⟩
  refine q_aload_n rfl rfl rfl ?_
  refine q_aload_n rfl rfl rfl ?_
  refine q_nV0 rfl rfl (Or.inl rfl) rfl rfl rfl (by decide) rfl ⟨rfl, rfl⟩ rfl ?_
  change PQ _ _ _ mm_X6_first 0 [.ref 7, pm_un, pm_un, pm_un] [] _ _ 0 0 _
  refine q_lconst rfl rfl ?_
  refine q_lst1n rfl rfl rfl rfl ?_
  refine q_iconst rfl rfl ?_
  refine q_ist3n rfl rfl rfl rfl ?_
  refine q_iload_n rfl rfl rfl ?_
  refine q_iconst rfl rfl ?_
  refine q_icge rfl rfl (fun c6 => absurd c6 (by decide)) (fun c6 => ?_)
  refine q_lload_n rfl rfl rfl ?_
  refine q_iload_n rfl rfl rfl ?_
  refine q_aload_n rfl rfl rfl ?_
  refine q_getf rfl rfl (by decide) rfl rfl ?_
  refine q_getf rfl rfl (by decide) (FW_1 S hW) rfl ?_
  refine q_iload_n rfl rfl rfl ?_
  refine q_iald rfl rfl (by decide) (FW_2 S hW) (by decide) (q_tn (z := 0) rfl ?_)
  refine q_nS3 rfl rfl (Or.inl rfl) rfl rfl ⟨rfl, rfl⟩ rfl ?_
  change PQ _ _ _ mm_X0_withPlace 0 [.long 0, pm_un, .int 0, .int 0, pm_un] [] _ _ 0 0 _
  refine q_bipush rfl rfl ?_
  refine q_iconst rfl rfl ?_
  refine q_iload_n rfl rfl rfl ?_
  refine q_imul rfl rfl (q_tn (z := 0) rfl ?_)
  refine q_iadd rfl rfl (q_tn (z := 36) rfl ?_)
  refine q_ist4 rfl rfl rfl rfl ?_
  refine q_lload_n rfl rfl rfl ?_
  refine q_ldc2 rfl rfl ?_
  refine q_iload rfl rfl rfl ?_
  refine q_lshl rfl rfl (q_tnl (z := 1030792151040) rfl ?_)
  refine q_ldc2 rfl rfl ?_
  refine q_lxor rfl rfl (q_tnl (z := (-1030792151041)) rfl ?_)
  refine q_land rfl rfl (q_tnl (z := 0) rfl ?_)
  refine q_iload_n rfl rfl rfl ?_
  refine q_i2l rfl rfl (q_tnl (z := 0) rfl ?_)
  refine q_iload rfl rfl rfl ?_
  refine q_lshl rfl rfl (q_tnl (z := 0) rfl ?_)
  refine q_lor rfl rfl (q_tnl (z := 0) rfl ?_)
  refine q_lret rfl rfl trivial ?_
  refine ⟨_, rfl, ?_⟩
  refine q_lst1n rfl rfl rfl rfl ?_
  refine q_icc3 (z := 1) rfl rfl rfl rfl rfl ?_
  refine q_goto rfl ?_
  refine q_iload_n rfl rfl rfl ?_
  refine q_iconst rfl rfl ?_
  refine q_icge rfl rfl (fun c7 => absurd c7 (by decide)) (fun c7 => ?_)
  refine q_lload_n rfl rfl rfl ?_
  refine q_iload_n rfl rfl rfl ?_
  refine q_aload_n rfl rfl rfl ?_
  refine q_getf rfl rfl (by decide) rfl rfl ?_
  refine q_getf rfl rfl (by decide) (FW_1 S hW) rfl ?_
  refine q_iload_n rfl rfl rfl ?_
  refine q_iald rfl rfl (by decide) (FW_2 S hW) (by decide) (q_tn (z := 0) rfl ?_)
  refine q_nS3 rfl rfl (Or.inl rfl) rfl rfl ⟨rfl, rfl⟩ rfl ?_
  change PQ _ _ _ mm_X0_withPlace 0 [.long 0, pm_un, .int 1, .int 0, pm_un] [] _ _ 0 0 _
  refine q_bipush rfl rfl ?_
  refine q_iconst rfl rfl ?_
  refine q_iload_n rfl rfl rfl ?_
  refine q_imul rfl rfl (q_tn (z := 4) rfl ?_)
  refine q_iadd rfl rfl (q_tn (z := 40) rfl ?_)
  refine q_ist4 rfl rfl rfl rfl ?_
  refine q_lload_n rfl rfl rfl ?_
  refine q_ldc2 rfl rfl ?_
  refine q_iload rfl rfl rfl ?_
  refine q_lshl rfl rfl (q_tnl (z := 16492674416640) rfl ?_)
  refine q_ldc2 rfl rfl ?_
  refine q_lxor rfl rfl (q_tnl (z := (-16492674416641)) rfl ?_)
  refine q_land rfl rfl (q_tnl (z := 0) rfl ?_)
  refine q_iload_n rfl rfl rfl ?_
  refine q_i2l rfl rfl (q_tnl (z := 0) rfl ?_)
  refine q_iload rfl rfl rfl ?_
  refine q_lshl rfl rfl (q_tnl (z := 0) rfl ?_)
  refine q_lor rfl rfl (q_tnl (z := 0) rfl ?_)
  refine q_lret rfl rfl trivial ?_
  refine ⟨_, rfl, ?_⟩
  refine q_lst1n rfl rfl rfl rfl ?_
  refine q_icc3 (z := 2) rfl rfl rfl rfl rfl ?_
  refine q_goto rfl ?_
  refine q_iload_n rfl rfl rfl ?_
  refine q_iconst rfl rfl ?_
  refine q_icge rfl rfl (fun c8 => absurd c8 (by decide)) (fun c8 => ?_)
  refine q_lload_n rfl rfl rfl ?_
  refine q_iload_n rfl rfl rfl ?_
  refine q_aload_n rfl rfl rfl ?_
  refine q_getf rfl rfl (by decide) rfl rfl ?_
  refine q_getf rfl rfl (by decide) (FW_1 S hW) rfl ?_
  refine q_iload_n rfl rfl rfl ?_
  refine q_iald rfl rfl (by decide) (FW_2 S hW) (by decide) (q_tn (z := 0) rfl ?_)
  refine q_nS3 rfl rfl (Or.inl rfl) rfl rfl ⟨rfl, rfl⟩ rfl ?_
  change PQ _ _ _ mm_X0_withPlace 0 [.long 0, pm_un, .int 2, .int 0, pm_un] [] _ _ 0 0 _
  refine q_bipush rfl rfl ?_
  refine q_iconst rfl rfl ?_
  refine q_iload_n rfl rfl rfl ?_
  refine q_imul rfl rfl (q_tn (z := 8) rfl ?_)
  refine q_iadd rfl rfl (q_tn (z := 44) rfl ?_)
  refine q_ist4 rfl rfl rfl rfl ?_
  refine q_lload_n rfl rfl rfl ?_
  refine q_ldc2 rfl rfl ?_
  refine q_iload rfl rfl rfl ?_
  refine q_lshl rfl rfl (q_tnl (z := 263882790666240) rfl ?_)
  refine q_ldc2 rfl rfl ?_
  refine q_lxor rfl rfl (q_tnl (z := (-263882790666241)) rfl ?_)
  refine q_land rfl rfl (q_tnl (z := 0) rfl ?_)
  refine q_iload_n rfl rfl rfl ?_
  refine q_i2l rfl rfl (q_tnl (z := 0) rfl ?_)
  refine q_iload rfl rfl rfl ?_
  refine q_lshl rfl rfl (q_tnl (z := 0) rfl ?_)
  refine q_lor rfl rfl (q_tnl (z := 0) rfl ?_)
  refine q_lret rfl rfl trivial ?_
  refine ⟨_, rfl, ?_⟩
  refine q_lst1n rfl rfl rfl rfl ?_
  refine q_icc3 (z := 3) rfl rfl rfl rfl rfl ?_
  refine q_goto rfl ?_
  refine q_iload_n rfl rfl rfl ?_
  refine q_iconst rfl rfl ?_
  refine q_icge rfl rfl (fun c9 => absurd c9 (by decide)) (fun c9 => ?_)
  refine q_lload_n rfl rfl rfl ?_
  refine q_iload_n rfl rfl rfl ?_
  refine q_aload_n rfl rfl rfl ?_
  refine q_getf rfl rfl (by decide) rfl rfl ?_
  refine q_getf rfl rfl (by decide) (FW_1 S hW) rfl ?_
  refine q_iload_n rfl rfl rfl ?_
  refine q_iald rfl rfl (by decide) (FW_2 S hW) (by decide) (q_tn (z := 0) rfl ?_)
  refine q_nS3 rfl rfl (Or.inl rfl) rfl rfl ⟨rfl, rfl⟩ rfl ?_
  change PQ _ _ _ mm_X0_withPlace 0 [.long 0, pm_un, .int 3, .int 0, pm_un] [] _ _ 0 0 _
  refine q_bipush rfl rfl ?_
  refine q_iconst rfl rfl ?_
  refine q_iload_n rfl rfl rfl ?_
  refine q_imul rfl rfl (q_tn (z := 12) rfl ?_)
  refine q_iadd rfl rfl (q_tn (z := 48) rfl ?_)
  refine q_ist4 rfl rfl rfl rfl ?_
  refine q_lload_n rfl rfl rfl ?_
  refine q_ldc2 rfl rfl ?_
  refine q_iload rfl rfl rfl ?_
  refine q_lshl rfl rfl (q_tnl (z := 4222124650659840) rfl ?_)
  refine q_ldc2 rfl rfl ?_
  refine q_lxor rfl rfl (q_tnl (z := (-4222124650659841)) rfl ?_)
  refine q_land rfl rfl (q_tnl (z := 0) rfl ?_)
  refine q_iload_n rfl rfl rfl ?_
  refine q_i2l rfl rfl (q_tnl (z := 0) rfl ?_)
  refine q_iload rfl rfl rfl ?_
  refine q_lshl rfl rfl (q_tnl (z := 0) rfl ?_)
  refine q_lor rfl rfl (q_tnl (z := 0) rfl ?_)
  refine q_lret rfl rfl trivial ?_
  refine ⟨_, rfl, ?_⟩
  refine q_lst1n rfl rfl rfl rfl ?_
  refine q_icc3 (z := 4) rfl rfl rfl rfl rfl ?_
  refine q_goto rfl ?_
  refine q_iload_n rfl rfl rfl ?_
  refine q_iconst rfl rfl ?_
  refine q_icge rfl rfl (fun c10 => ?_) (fun c10 => absurd (by decide) c10)
  refine q_lload_n rfl rfl rfl ?_
  refine q_lret rfl rfl trivial ?_
  refine ⟨_, rfl, ?_⟩
  refine q_iconst rfl rfl ?_
  refine q_iconst rfl rfl ?_
  refine q_nV3 rfl rfl (Or.inl rfl) rfl rfl rfl (by decide) rfl ⟨rfl, rfl⟩ rfl ?_
  change PQ _ _ _ mm_X7_numberOf 0 [.ref 8, .long 0, pm_un, .int (-1), .int (-1), pm_un, pm_un, pm_un] [] _ _ 0 0 _
  refine q_lload_n rfl rfl rfl ?_
  refine q_ldc2 rfl rfl ?_
  refine q_lmul rfl rfl (q_tnl (z := 0) rfl ?_)
  refine q_bipush rfl rfl ?_
  refine q_lushr rfl rfl (q_tnl (z := 0) rfl ?_)
  refine q_l2i rfl rfl (q_tn (z := 0) rfl ?_)
  refine q_sipush rfl rfl ?_
  refine q_iand rfl rfl (q_tn (z := 0) rfl ?_)
  refine q_ist5 rfl rfl rfl rfl ?_
  refine q_iconst rfl rfl ?_
  refine q_ist6 rfl rfl rfl rfl ?_
  refine q_iload rfl rfl rfl ?_
  refine q_sipush rfl rfl ?_
  refine q_icge rfl rfl (fun c11 => absurd c11 (by decide)) (fun c11 => ?_)
  refine q_aload_n rfl rfl rfl ?_
  refine q_getf rfl rfl (by decide) rfl rfl ?_
  refine q_iload rfl rfl rfl ?_
  refine q_iald rfl rfl (by decide) (FW_14 S hW) (by decide) (q_tn (z := 0) rfl ?_)
  refine q_iconst rfl rfl ?_
  refine q_isub rfl rfl (q_tn (z := (-1)) rfl ?_)
  refine q_ist7 rfl rfl rfl rfl ?_
  refine q_iload rfl rfl rfl ?_
  refine q_ifge rfl rfl (fun c12 => absurd c12 (by decide)) (fun c12 => ?_)
  refine q_aload_n rfl rfl rfl ?_
  refine q_lload_n rfl rfl rfl ?_
  refine q_iload rfl rfl rfl ?_
  refine q_iload_n rfl rfl rfl ?_
  refine q_iload rfl rfl rfl ?_
  refine q_nV4 rfl rfl (Or.inl rfl) rfl rfl rfl (by decide) rfl ⟨rfl, rfl⟩ rfl ?_
  change PQ _ _ _ mm_X7_newNumber 0 [.ref 8, .long 0, pm_un, .int 0, .int (-1), .int (-1), pm_un] [] _ _ 0 0 _
  refine q_aload_n rfl rfl rfl ?_
  refine q_getf rfl rfl (by decide) rfl rfl ?_
  refine q_sipush rfl rfl ?_
  refine q_iclt rfl rfl (fun c13 => ?_) (fun c13 => absurd (by decide) c13)
  refine q_aload_n rfl rfl rfl ?_
  refine q_dupr rfl rfl ?_
  refine q_getf rfl rfl (by decide) rfl rfl ?_
  refine q_dupx1 rfl rfl ?_
  refine q_iconst rfl rfl ?_
  refine q_iadd rfl rfl (q_tn (z := 1) rfl ?_)
  refine q_putf rfl rfl (by decide) rfl (by decide) rfl trivial ?_
  refine q_ist6 rfl rfl rfl rfl ?_
  refine q_aload_n rfl rfl rfl ?_
  refine q_getf rfl rfl (by decide) rfl rfl ?_
  refine q_iload rfl rfl rfl ?_
  refine q_lload_n rfl rfl rfl ?_
  refine q_last rfl rfl (by decide) (FW_9 S hW) (by decide) ?_
  refine q_aload_n rfl rfl rfl ?_
  refine q_getf rfl rfl (by decide) rfl rfl ?_
  refine q_iload rfl rfl rfl ?_
  refine q_iload rfl rfl rfl ?_
  refine q_iast rfl rfl (by decide) (FW_10 S hW) (by decide) ?_
  refine q_aload_n rfl rfl rfl ?_
  refine q_getf rfl rfl (by decide) rfl rfl ?_
  refine q_iload rfl rfl rfl ?_
  refine q_iload rfl rfl rfl ?_
  refine q_iast rfl rfl (by decide) (FW_11 S hW) (by decide) ?_
  refine q_aload_n rfl rfl rfl ?_
  refine q_getf rfl rfl (by decide) rfl rfl ?_
  refine q_iload rfl rfl rfl ?_
  refine q_iload_n rfl rfl rfl ?_
  refine q_iast rfl rfl (by decide) (FW_15 S hW) (by decide) ?_
  refine q_aload_n rfl rfl rfl ?_
  refine q_getf rfl rfl (by decide) rfl rfl ?_
  refine q_iload_n rfl rfl rfl ?_
  refine q_iload rfl rfl rfl ?_
  refine q_iconst rfl rfl ?_
  refine q_iadd rfl rfl (q_tn (z := 1) rfl ?_)
  refine q_iast rfl rfl (by decide) (FW_14 S hW) (by decide) ?_
  refine q_iload rfl rfl rfl ?_
  refine q_iret rfl rfl trivial ?_
  refine ⟨_, rfl, ?_⟩
  refine q_iret rfl rfl trivial ?_
  refine ⟨_, rfl, ?_⟩
  refine q_pop rfl rfl ?_
  refine q_iconst rfl rfl ?_
  refine q_ist3n rfl rfl rfl rfl ?_
  refine q_iload_n rfl rfl rfl ?_
  refine q_sipush rfl rfl ?_
  refine q_icge rfl rfl (fun c14 => absurd c14 (by decide)) (fun c14 => ?_)
  refine q_iload_n rfl rfl rfl ?_
  refine q_aload_n rfl rfl rfl ?_
  refine q_getf rfl rfl (by decide) rfl rfl ?_
  refine q_icge rfl rfl (fun c15 => absurd c15 (by decide)) (fun c15 => ?_)
  refine q_aload_n rfl rfl rfl ?_
  refine q_aload_n rfl rfl rfl ?_
  refine q_iload_n rfl rfl rfl ?_
  refine q_nV2v rfl rfl (Or.inl rfl) rfl rfl rfl (by decide) rfl ⟨rfl, rfl⟩ rfl ?_
  change PQ _ _ _ mm_X7_lookAt 0 [.ref 8, .ref 7, .int 0, pm_un, pm_un, pm_un, pm_un, pm_un, pm_un, pm_un] [] _ _ 0 0 _
  refine q_aload_n rfl rfl rfl ?_
  refine q_getf rfl rfl (by decide) rfl rfl ?_
  refine q_iload_n rfl rfl rfl ?_
  refine q_lald rfl rfl (by decide) rfl (by decide) (q_tnl (z := 0) rfl ?_)
  refine q_lst3n rfl rfl rfl rfl ?_
  refine q_aload_n rfl rfl rfl ?_
  refine q_aload_n rfl rfl rfl ?_
  refine q_lload_n rfl rfl rfl ?_
  refine q_nV1 rfl rfl (Or.inl rfl) rfl rfl rfl (by decide) rfl ⟨rfl, rfl⟩ rfl ?_
  change PQ _ _ _ mm_X6_ableHands 0 [.ref 7, .long 0, pm_un, pm_un, pm_un, pm_un] [] _ _ 0 0 _
  refine q_aload_n rfl rfl rfl ?_
  refine q_lload_n rfl rfl rfl ?_
  refine q_nV1 rfl rfl (Or.inl rfl) rfl rfl rfl (by decide) rfl ⟨rfl, rfl⟩ rfl ?_
  change PQ _ _ _ mm_X6_allMeet 0 [.ref 7, .long 0, pm_un, pm_un, pm_un] [] _ _ 0 0 _
  refine q_iconst rfl rfl ?_
  refine q_ist3n rfl rfl rfl rfl ?_
  refine q_iload_n rfl rfl rfl ?_
  refine q_aload_n rfl rfl rfl ?_
  refine q_getf rfl rfl (by decide) rfl rfl ?_
  refine q_getf rfl rfl (by decide) (FW_1 S hW) rfl ?_
  refine q_icge rfl rfl (fun c16 => absurd c16 (by decide)) (fun c16 => ?_)
  refine q_aload_n rfl rfl rfl ?_
  refine q_getf rfl rfl (by decide) rfl rfl ?_
  refine q_iload_n rfl rfl rfl ?_
  refine q_lload_n rfl rfl rfl ?_
  refine q_iload_n rfl rfl rfl ?_
  refine q_nS2 rfl rfl (Or.inl rfl) rfl rfl ⟨rfl, rfl⟩ rfl ?_
  change PQ _ _ _ mm_X0_position 0 [.long 0, pm_un, .int 0] [] _ _ 0 0 _
  refine q_lload_n rfl rfl rfl ?_
  refine q_bipush rfl rfl ?_
  refine q_iload_n rfl rfl rfl ?_
  refine q_imul rfl rfl (q_tn (z := 0) rfl ?_)
  refine q_lushr rfl rfl (q_tnl (z := 0) rfl ?_)
  refine q_l2i rfl rfl (q_tn (z := 0) rfl ?_)
  refine q_bipush rfl rfl ?_
  refine q_iand rfl rfl (q_tn (z := 0) rfl ?_)
  refine q_iret rfl rfl trivial ?_
  refine ⟨_, rfl, ?_⟩
  refine q_nV2 rfl rfl (Or.inl rfl) rfl rfl rfl (by decide) (FW_1 S hW) ⟨rfl, rfl⟩ rfl ?_
  change PQ _ _ _ mm_X8_cellOf 0 [.ref 1, .int 0, .int 0, pm_un] [] _ _ 0 0 _
  refine q_iload_n rfl rfl rfl ?_
  refine q_iflt rfl rfl (fun c17 => absurd c17 (by decide)) (fun c17 => ?_)
  refine q_iload_n rfl rfl rfl ?_
  refine q_aload_n rfl rfl rfl ?_
  refine q_getf rfl rfl (by decide) (FW_1 S hW) rfl ?_
  refine q_icge rfl rfl (fun c18 => absurd c18 (by decide)) (fun c18 => ?_)
  refine q_iload_n rfl rfl rfl ?_
  refine q_iflt rfl rfl (fun c19 => absurd c19 (by decide)) (fun c19 => ?_)
  refine q_iload_n rfl rfl rfl ?_
  refine q_aload_n rfl rfl rfl ?_
  refine q_getf rfl rfl (by decide) (FW_1 S hW) rfl ?_
  refine q_iload_n rfl rfl rfl ?_
  refine q_iald rfl rfl (by decide) (FW_3 S hW) (by decide) (q_tn (z := 0) rfl ?_)
  refine q_icge rfl rfl (fun c20 => ?_) (fun c20 => absurd (by decide) c20)
  refine q_iconst rfl rfl ?_
  refine q_ist3n rfl rfl rfl rfl ?_
  refine q_iload_n rfl rfl rfl ?_
  refine q_ifeq rfl rfl (fun c21 => ?_) (fun c21 => absurd (by decide) c21)
  refine q_iconst rfl rfl ?_
  refine q_iret rfl rfl trivial ?_
  refine ⟨_, rfl, ?_⟩
  refine q_ist4 rfl rfl rfl rfl ?_
  refine q_iload rfl rfl rfl ?_
  refine q_iflt rfl rfl (fun c22 => ?_) (fun c22 => absurd (by decide) c22)
  refine q_icc3 (z := 1) rfl rfl rfl rfl rfl ?_
  refine q_goto rfl ?_
  refine q_iload_n rfl rfl rfl ?_
  refine q_aload_n rfl rfl rfl ?_
  refine q_getf rfl rfl (by decide) rfl rfl ?_
  refine q_getf rfl rfl (by decide) (FW_1 S hW) rfl ?_
  refine q_icge rfl rfl (fun c23 => ?_) (fun c23 => absurd (by decide) c23)
  refine q_iconst rfl rfl ?_
  refine q_iret rfl rfl rfl ?_
  refine ⟨_, rfl, ?_⟩
  refine q_ist3n rfl rfl rfl rfl ?_
  refine q_iconst rfl rfl ?_
  refine q_ist4 rfl rfl rfl rfl ?_
  refine q_iconst rfl rfl ?_
  refine q_ist5 rfl rfl rfl rfl ?_
  refine q_iload rfl rfl rfl ?_
  refine q_aload_n rfl rfl rfl ?_
  refine q_getf rfl rfl (by decide) rfl rfl ?_
  refine q_getf rfl rfl (by decide) (FW_1 S hW) rfl ?_
  refine q_icge rfl rfl (fun c24 => absurd c24 (by decide)) (fun c24 => ?_)
  refine q_aload_n rfl rfl rfl ?_
  refine q_lload_n rfl rfl rfl ?_
  refine q_iload rfl rfl rfl ?_
  refine q_iload_n rfl rfl rfl ?_
  refine q_nV3 rfl rfl (Or.inl rfl) rfl rfl rfl (by decide) rfl ⟨rfl, rfl⟩ rfl ?_
  change PQ _ _ _ mm_X6_isAble 0 [.ref 7, .long 0, pm_un, .int 0, .int 1, pm_un, pm_un, pm_un] [] _ _ 0 0 _
  refine q_aload_n rfl rfl rfl ?_
  refine q_getf rfl rfl (by decide) rfl rfl ?_
  refine q_iload_n rfl rfl rfl ?_
  refine q_lload_n rfl rfl rfl ?_
  refine q_iload_n rfl rfl rfl ?_
  refine q_nS2 rfl rfl (Or.inl rfl) rfl rfl ⟨rfl, rfl⟩ rfl ?_
  change PQ _ _ _ mm_X0_position 0 [.long 0, pm_un, .int 0] [] _ _ 0 0 _
  refine q_lload_n rfl rfl rfl ?_
  refine q_bipush rfl rfl ?_
  refine q_iload_n rfl rfl rfl ?_
  refine q_imul rfl rfl (q_tn (z := 0) rfl ?_)
  refine q_lushr rfl rfl (q_tnl (z := 0) rfl ?_)
  refine q_l2i rfl rfl (q_tn (z := 0) rfl ?_)
  refine q_bipush rfl rfl ?_
  refine q_iand rfl rfl (q_tn (z := 0) rfl ?_)
  refine q_iret rfl rfl trivial ?_
  refine ⟨_, rfl, ?_⟩
  refine q_nV2 rfl rfl (Or.inl rfl) rfl rfl rfl (by decide) (FW_1 S hW) ⟨rfl, rfl⟩ rfl ?_
  change PQ _ _ _ mm_X8_cellOf 0 [.ref 1, .int 0, .int 0, pm_un] [] _ _ 0 0 _
  refine q_iload_n rfl rfl rfl ?_
  refine q_iflt rfl rfl (fun c25 => absurd c25 (by decide)) (fun c25 => ?_)
  refine q_iload_n rfl rfl rfl ?_
  refine q_aload_n rfl rfl rfl ?_
  refine q_getf rfl rfl (by decide) (FW_1 S hW) rfl ?_
  refine q_icge rfl rfl (fun c26 => absurd c26 (by decide)) (fun c26 => ?_)
  refine q_iload_n rfl rfl rfl ?_
  refine q_iflt rfl rfl (fun c27 => absurd c27 (by decide)) (fun c27 => ?_)
  refine q_iload_n rfl rfl rfl ?_
  refine q_aload_n rfl rfl rfl ?_
  refine q_getf rfl rfl (by decide) (FW_1 S hW) rfl ?_
  refine q_iload_n rfl rfl rfl ?_
  refine q_iald rfl rfl (by decide) (FW_3 S hW) (by decide) (q_tn (z := 0) rfl ?_)
  refine q_icge rfl rfl (fun c28 => ?_) (fun c28 => absurd (by decide) c28)
  refine q_iconst rfl rfl ?_
  refine q_ist3n rfl rfl rfl rfl ?_
  refine q_iload_n rfl rfl rfl ?_
  refine q_ifeq rfl rfl (fun c29 => ?_) (fun c29 => absurd (by decide) c29)
  refine q_iconst rfl rfl ?_
  refine q_iret rfl rfl trivial ?_
  refine ⟨_, rfl, ?_⟩
  refine q_ist5 rfl rfl rfl rfl ?_
  refine q_iload rfl rfl rfl ?_
  refine q_ifge rfl rfl (fun c30 => absurd c30 (by decide)) (fun c30 => ?_)
  refine q_iconst rfl rfl ?_
  refine q_iret rfl rfl rfl ?_
  refine ⟨_, rfl, ?_⟩
  refine q_ifeq rfl rfl (fun c31 => ?_) (fun c31 => absurd (by decide) c31)
  refine q_icc5 (z := 1) rfl rfl rfl rfl rfl ?_
  refine q_goto rfl ?_
  refine q_iload rfl rfl rfl ?_
  refine q_aload_n rfl rfl rfl ?_
  refine q_getf rfl rfl (by decide) rfl rfl ?_
  refine q_getf rfl rfl (by decide) (FW_1 S hW) rfl ?_
  refine q_icge rfl rfl (fun c32 => ?_) (fun c32 => absurd (by decide) c32)
  refine q_iload rfl rfl rfl ?_
  refine q_iret rfl rfl trivial ?_
  refine ⟨_, rfl, ?_⟩
  refine q_lload_n rfl rfl rfl ?_
  refine q_nS1 rfl rfl (Or.inl rfl) rfl rfl ⟨rfl, rfl⟩ rfl ?_
  change PQ _ _ _ mm_X0_last 0 [.long 0, pm_un] [] _ _ 0 0 _
  refine q_lload_n rfl rfl rfl ?_
  refine q_bipush rfl rfl ?_
  refine q_lushr rfl rfl (q_tnl (z := 0) rfl ?_)
  refine q_l2i rfl rfl (q_tn (z := 0) rfl ?_)
  refine q_iconst rfl rfl ?_
  refine q_iand rfl rfl (q_tn (z := 0) rfl ?_)
  refine q_iconst rfl rfl ?_
  refine q_isub rfl rfl (q_tn (z := (-1)) rfl ?_)
  refine q_iret rfl rfl trivial ?_
  refine ⟨_, rfl, ?_⟩
  refine q_nV2 rfl rfl (Or.inl rfl) rfl rfl rfl (by decide) rfl ⟨rfl, rfl⟩ rfl ?_
  change PQ _ _ _ mm_X6_chosenHands 0 [.ref 7, .int 0, .int (-1), pm_un, pm_un] [] _ _ 0 0 _
  refine q_aload_n rfl rfl rfl ?_
  refine q_getf rfl rfl (by decide) rfl rfl ?_
  refine q_iconst rfl rfl ?_
  refine q_icne rfl rfl (fun c33 => absurd c33 (by decide)) (fun c33 => ?_)
  refine q_aload_n rfl rfl rfl ?_
  refine q_getf rfl rfl (by decide) rfl rfl ?_
  refine q_iconst rfl rfl ?_
  refine q_iceq rfl rfl (fun c34 => absurd c34 (by decide)) (fun c34 => ?_)
  refine q_iload_n rfl rfl rfl ?_
  refine q_iret rfl rfl trivial ?_
  refine ⟨_, rfl, ?_⟩
  refine q_ist5 rfl rfl rfl rfl ?_
  refine q_iconst rfl rfl ?_
  refine q_ist6 rfl rfl rfl rfl ?_
  refine q_iload rfl rfl rfl ?_
  refine q_iconst rfl rfl ?_
  refine q_icge rfl rfl (fun c35 => absurd c35 (by decide)) (fun c35 => ?_)
  refine q_iconst rfl rfl ?_
  refine q_ist7 rfl rfl rfl rfl ?_
  refine q_iload rfl rfl rfl ?_
  refine q_iload rfl rfl rfl ?_
  refine q_iushr rfl rfl (q_tn (z := 0) rfl ?_)
  refine q_iconst rfl rfl ?_
  refine q_iand rfl rfl (q_tn (z := 0) rfl ?_)
  refine q_ifeq rfl rfl (fun c36 => ?_) (fun c36 => absurd (by decide) c36)
  refine q_aload_n rfl rfl rfl ?_
  refine q_getf rfl rfl (by decide) rfl rfl ?_
  refine q_iload_n rfl rfl rfl ?_
  refine q_iconst rfl rfl ?_
  refine q_imul rfl rfl (q_tn (z := 0) rfl ?_)
  refine q_iload rfl rfl rfl ?_
  refine q_iadd rfl rfl (q_tn (z := 0) rfl ?_)
  refine q_iload rfl rfl rfl ?_
  refine q_iast rfl rfl (by decide) (FW_13 S hW) (by decide) ?_
  refine q_icc6 (z := 1) rfl rfl rfl rfl rfl ?_
  refine q_goto rfl ?_
  refine q_iload rfl rfl rfl ?_
  refine q_iconst rfl rfl ?_
  refine q_icge rfl rfl (fun c37 => absurd c37 (by decide)) (fun c37 => ?_)
  refine q_iconst rfl rfl ?_
  refine q_ist7 rfl rfl rfl rfl ?_
  refine q_iload rfl rfl rfl ?_
  refine q_iload rfl rfl rfl ?_
  refine q_iushr rfl rfl (q_tn (z := 0) rfl ?_)
  refine q_iconst rfl rfl ?_
  refine q_iand rfl rfl (q_tn (z := 0) rfl ?_)
  refine q_ifeq rfl rfl (fun c38 => ?_) (fun c38 => absurd (by decide) c38)
  refine q_aload_n rfl rfl rfl ?_
  refine q_getf rfl rfl (by decide) rfl rfl ?_
  refine q_iload_n rfl rfl rfl ?_
  refine q_iconst rfl rfl ?_
  refine q_imul rfl rfl (q_tn (z := 0) rfl ?_)
  refine q_iload rfl rfl rfl ?_
  refine q_iadd rfl rfl (q_tn (z := 1) rfl ?_)
  refine q_iload rfl rfl rfl ?_
  refine q_iast rfl rfl (by decide) rfl (by decide) ?_
  refine q_icc6 (z := 2) rfl rfl rfl rfl rfl ?_
  refine q_goto rfl ?_
  refine q_iload rfl rfl rfl ?_
  refine q_iconst rfl rfl ?_
  refine q_icge rfl rfl (fun c39 => absurd c39 (by decide)) (fun c39 => ?_)
  refine q_iconst rfl rfl ?_
  refine q_ist7 rfl rfl rfl rfl ?_
  refine q_iload rfl rfl rfl ?_
  refine q_iload rfl rfl rfl ?_
  refine q_iushr rfl rfl (q_tn (z := 0) rfl ?_)
  refine q_iconst rfl rfl ?_
  refine q_iand rfl rfl (q_tn (z := 0) rfl ?_)
  refine q_ifeq rfl rfl (fun c40 => ?_) (fun c40 => absurd (by decide) c40)
  refine q_aload_n rfl rfl rfl ?_
  refine q_getf rfl rfl (by decide) rfl rfl ?_
  refine q_iload_n rfl rfl rfl ?_
  refine q_iconst rfl rfl ?_
  refine q_imul rfl rfl (q_tn (z := 0) rfl ?_)
  refine q_iload rfl rfl rfl ?_
  refine q_iadd rfl rfl (q_tn (z := 2) rfl ?_)
  refine q_iload rfl rfl rfl ?_
  refine q_iast rfl rfl (by decide) rfl (by decide) ?_
  refine q_icc6 (z := 3) rfl rfl rfl rfl rfl ?_
  refine q_goto rfl ?_
  refine q_iload rfl rfl rfl ?_
  refine q_iconst rfl rfl ?_
  refine q_icge rfl rfl (fun c41 => ?_) (fun c41 => absurd (by decide) c41)
  refine q_aload_n rfl rfl rfl ?_
  refine q_getf rfl rfl (by decide) rfl rfl ?_
  refine q_iload_n rfl rfl rfl ?_
  refine q_iload rfl rfl rfl ?_
  refine q_ifeq rfl rfl (fun c42 => ?_) (fun c42 => absurd (by decide) c42)
  refine q_aload_n rfl rfl rfl ?_
  refine q_lload_n rfl rfl rfl ?_
  refine q_nV1 rfl rfl (Or.inl rfl) rfl rfl rfl (by decide) rfl ⟨rfl, rfl⟩ rfl ?_
  change PQ _ _ _ mm_X6_isEnd 0 [.ref 7, .long 0, pm_un, pm_un] [] _ _ 0 0 _
  refine q_iconst rfl rfl ?_
  refine q_ist3n rfl rfl rfl rfl ?_
  refine q_iload_n rfl rfl rfl ?_
  refine q_aload_n rfl rfl rfl ?_
  refine q_getf rfl rfl (by decide) rfl rfl ?_
  refine q_getf rfl rfl (by decide) (FW_1 S hW) rfl ?_
  refine q_icge rfl rfl (fun c43 => absurd c43 (by decide)) (fun c43 => ?_)
  refine q_aload_n rfl rfl rfl ?_
  refine q_getf rfl rfl (by decide) rfl rfl ?_
  refine q_iload_n rfl rfl rfl ?_
  refine q_lload_n rfl rfl rfl ?_
  refine q_iload_n rfl rfl rfl ?_
  refine q_nS2 rfl rfl (Or.inl rfl) rfl rfl ⟨rfl, rfl⟩ rfl ?_
  change PQ _ _ _ mm_X0_position 0 [.long 0, pm_un, .int 0] [] _ _ 0 0 _
  refine q_lload_n rfl rfl rfl ?_
  refine q_bipush rfl rfl ?_
  refine q_iload_n rfl rfl rfl ?_
  refine q_imul rfl rfl (q_tn (z := 0) rfl ?_)
  refine q_lushr rfl rfl (q_tnl (z := 0) rfl ?_)
  refine q_l2i rfl rfl (q_tn (z := 0) rfl ?_)
  refine q_bipush rfl rfl ?_
  refine q_iand rfl rfl (q_tn (z := 0) rfl ?_)
  refine q_iret rfl rfl trivial ?_
  refine ⟨_, rfl, ?_⟩
  refine q_nV2 rfl rfl (Or.inl rfl) rfl rfl rfl (by decide) (FW_1 S hW) ⟨rfl, rfl⟩ rfl ?_
  change PQ _ _ _ mm_X8_cellOf 0 [.ref 1, .int 0, .int 0, pm_un] [] _ _ 0 0 _
  refine q_iload_n rfl rfl rfl ?_
  refine q_iflt rfl rfl (fun c44 => absurd c44 (by decide)) (fun c44 => ?_)
  refine q_iload_n rfl rfl rfl ?_
  refine q_aload_n rfl rfl rfl ?_
  refine q_getf rfl rfl (by decide) (FW_1 S hW) rfl ?_
  refine q_icge rfl rfl (fun c45 => absurd c45 (by decide)) (fun c45 => ?_)
  refine q_iload_n rfl rfl rfl ?_
  refine q_iflt rfl rfl (fun c46 => absurd c46 (by decide)) (fun c46 => ?_)
  refine q_iload_n rfl rfl rfl ?_
  refine q_aload_n rfl rfl rfl ?_
  refine q_getf rfl rfl (by decide) (FW_1 S hW) rfl ?_
  refine q_iload_n rfl rfl rfl ?_
  refine q_iald rfl rfl (by decide) (FW_3 S hW) (by decide) (q_tn (z := 0) rfl ?_)
  refine q_icge rfl rfl (fun c47 => ?_) (fun c47 => absurd (by decide) c47)
  refine q_iconst rfl rfl ?_
  refine q_ist3n rfl rfl rfl rfl ?_
  refine q_iload_n rfl rfl rfl ?_
  refine q_ifeq rfl rfl (fun c48 => ?_) (fun c48 => absurd (by decide) c48)
  refine q_iconst rfl rfl ?_
  refine q_iret rfl rfl trivial ?_
  refine ⟨_, rfl, ?_⟩
  refine q_iflt rfl rfl (fun c49 => ?_) (fun c49 => absurd (by decide) c49)
  refine q_icc3 (z := 1) rfl rfl rfl rfl rfl ?_
  refine q_goto rfl ?_
  refine q_iload_n rfl rfl rfl ?_
  refine q_aload_n rfl rfl rfl ?_
  refine q_getf rfl rfl (by decide) rfl rfl ?_
  refine q_getf rfl rfl (by decide) (FW_1 S hW) rfl ?_
  refine q_icge rfl rfl (fun c50 => ?_) (fun c50 => absurd (by decide) c50)
  refine q_iconst rfl rfl ?_
  refine q_iret rfl rfl rfl ?_
  refine ⟨_, rfl, ?_⟩
  refine q_ifeq rfl rfl (fun c51 => absurd c51 (by decide)) (fun c51 => ?_)
  refine q_iconst rfl rfl ?_
  refine q_goto rfl ?_
  refine q_iast rfl rfl (by decide) (FW_12 S hW) (by decide) ?_
  refine q_aload_n rfl rfl rfl ?_
  refine q_dupr rfl rfl ?_
  refine q_getf rfl rfl (by decide) rfl rfl ?_
  refine q_aload_n rfl rfl rfl ?_
  refine q_getf rfl rfl (by decide) rfl rfl ?_
  refine q_iload_n rfl rfl rfl ?_
  refine q_iald rfl rfl (by decide) rfl (by decide) (q_tn (z := 1) rfl ?_)
  refine q_iconst rfl rfl ?_
  refine q_iceq rfl rfl (fun c52 => absurd c52 (by decide)) (fun c52 => ?_)
  refine q_aload_n rfl rfl rfl ?_
  refine q_lload_n rfl rfl rfl ?_
  refine q_nV1 rfl rfl (Or.inl rfl) rfl rfl rfl (by decide) rfl ⟨rfl, rfl⟩ rfl ?_
  change PQ _ _ _ mm_X6_someFailed 0 [.ref 7, .long 0, pm_un, pm_un] [] _ _ 0 0 _
  refine q_iconst rfl rfl ?_
  refine q_ist3n rfl rfl rfl rfl ?_
  refine q_iload_n rfl rfl rfl ?_
  refine q_aload_n rfl rfl rfl ?_
  refine q_getf rfl rfl (by decide) rfl rfl ?_
  refine q_getf rfl rfl (by decide) (FW_1 S hW) rfl ?_
  refine q_icge rfl rfl (fun c53 => absurd c53 (by decide)) (fun c53 => ?_)
  refine q_lload_n rfl rfl rfl ?_
  refine q_iload_n rfl rfl rfl ?_
  refine q_nS2 rfl rfl (Or.inl rfl) rfl rfl ⟨rfl, rfl⟩ rfl ?_
  change PQ _ _ _ mm_X0_position 0 [.long 0, pm_un, .int 0] [] _ _ 0 0 _
  refine q_lload_n rfl rfl rfl ?_
  refine q_bipush rfl rfl ?_
  refine q_iload_n rfl rfl rfl ?_
  refine q_imul rfl rfl (q_tn (z := 0) rfl ?_)
  refine q_lushr rfl rfl (q_tnl (z := 0) rfl ?_)
  refine q_l2i rfl rfl (q_tn (z := 0) rfl ?_)
  refine q_bipush rfl rfl ?_
  refine q_iand rfl rfl (q_tn (z := 0) rfl ?_)
  refine q_iret rfl rfl trivial ?_
  refine ⟨_, rfl, ?_⟩
  refine q_bipush rfl rfl ?_
  refine q_icne rfl rfl (fun c54 => absurd c54 (by decide)) (fun c54 => ?_)
  refine q_icc3 (z := 1) rfl rfl rfl rfl rfl ?_
  refine q_goto rfl ?_
  refine q_iload_n rfl rfl rfl ?_
  refine q_aload_n rfl rfl rfl ?_
  refine q_getf rfl rfl (by decide) rfl rfl ?_
  refine q_getf rfl rfl (by decide) (FW_1 S hW) rfl ?_
  refine q_icge rfl rfl (fun c55 => ?_) (fun c55 => absurd (by decide) c55)
  refine q_iconst rfl rfl ?_
  refine q_iret rfl rfl rfl ?_
  refine ⟨_, rfl, ?_⟩
  refine q_ifeq rfl rfl (fun c56 => ?_) (fun c56 => absurd (by decide) c56)
  refine q_iconst rfl rfl ?_
  refine q_ior rfl rfl (q_tn (z := 0) rfl ?_)
  refine q_putf rfl rfl (by decide) rfl (by decide) rfl rfl ?_
  refine q_aload_n rfl rfl rfl ?_
  refine q_getf rfl rfl (by decide) rfl rfl ?_
  refine q_iload_n rfl rfl rfl ?_
  refine q_iald rfl rfl (by decide) rfl (by decide) (q_tn (z := 1) rfl ?_)
  refine q_iconst rfl rfl ?_
  refine q_icne rfl rfl (fun c57 => ?_) (fun c57 => absurd (by decide) c57)
  refine q_aload_n rfl rfl rfl ?_
  refine q_lload_n rfl rfl rfl ?_
  refine q_nV1v rfl rfl (Or.inl rfl) rfl rfl rfl (by decide) rfl ⟨rfl, rfl⟩ rfl ?_
  change PQ _ _ _ mm_X7_noteEnd 0 [.ref 8, .long 0, pm_un, pm_un] [] _ _ 0 0 _
  refine q_iconst rfl rfl ?_
  refine q_ist3n rfl rfl rfl rfl ?_
  refine q_iload_n rfl rfl rfl ?_
  refine q_iconst rfl rfl ?_
  refine q_icge rfl rfl (fun c58 => absurd c58 (by decide)) (fun c58 => ?_)
  refine q_aload_n rfl rfl rfl ?_
  refine q_dupr rfl rfl ?_
  refine q_getf rfl rfl (by decide) rfl rfl ?_
  refine q_lconst rfl rfl ?_
  refine q_bipush rfl rfl ?_
  refine q_iload_n rfl rfl rfl ?_
  refine q_imul rfl rfl (q_tn (z := 0) rfl ?_)
  refine q_lload_n rfl rfl rfl ?_
  refine q_iload_n rfl rfl rfl ?_
  refine q_nS2 rfl rfl (Or.inl rfl) rfl rfl ⟨rfl, rfl⟩ rfl ?_
  change PQ _ _ _ mm_X0_place 0 [.long 0, pm_un, .int 0] [] _ _ 0 0 _
  refine q_lload_n rfl rfl rfl ?_
  refine q_bipush rfl rfl ?_
  refine q_iconst rfl rfl ?_
  refine q_iload_n rfl rfl rfl ?_
  refine q_imul rfl rfl (q_tn (z := 0) rfl ?_)
  refine q_iadd rfl rfl (q_tn (z := 36) rfl ?_)
  refine q_lushr rfl rfl (q_tnl (z := 0) rfl ?_)
  refine q_l2i rfl rfl (q_tn (z := 0) rfl ?_)
  refine q_bipush rfl rfl ?_
  refine q_iand rfl rfl (q_tn (z := 0) rfl ?_)
  refine q_iret rfl rfl trivial ?_
  refine ⟨_, rfl, ?_⟩
  refine q_iadd rfl rfl (q_tn (z := 0) rfl ?_)
  refine q_lshl rfl rfl (q_tnl (z := 1) rfl ?_)
  refine q_lor rfl rfl (q_tnl (z := 1) rfl ?_)
  refine q_putf rfl rfl (by decide) rfl (by decide) rfl trivial ?_
  refine q_icc3 (z := 1) rfl rfl rfl rfl rfl ?_
  refine q_goto rfl ?_
  refine q_iload_n rfl rfl rfl ?_
  refine q_iconst rfl rfl ?_
  refine q_icge rfl rfl (fun c59 => absurd c59 (by decide)) (fun c59 => ?_)
  refine q_aload_n rfl rfl rfl ?_
  refine q_dupr rfl rfl ?_
  refine q_getf rfl rfl (by decide) rfl rfl ?_
  refine q_lconst rfl rfl ?_
  refine q_bipush rfl rfl ?_
  refine q_iload_n rfl rfl rfl ?_
  refine q_imul rfl rfl (q_tn (z := 10) rfl ?_)
  refine q_lload_n rfl rfl rfl ?_
  refine q_iload_n rfl rfl rfl ?_
  refine q_nS2 rfl rfl (Or.inl rfl) rfl rfl ⟨rfl, rfl⟩ rfl ?_
  change PQ _ _ _ mm_X0_place 0 [.long 0, pm_un, .int 1] [] _ _ 0 0 _
  refine q_lload_n rfl rfl rfl ?_
  refine q_bipush rfl rfl ?_
  refine q_iconst rfl rfl ?_
  refine q_iload_n rfl rfl rfl ?_
  refine q_imul rfl rfl (q_tn (z := 4) rfl ?_)
  refine q_iadd rfl rfl (q_tn (z := 40) rfl ?_)
  refine q_lushr rfl rfl (q_tnl (z := 0) rfl ?_)
  refine q_l2i rfl rfl (q_tn (z := 0) rfl ?_)
  refine q_bipush rfl rfl ?_
  refine q_iand rfl rfl (q_tn (z := 0) rfl ?_)
  refine q_iret rfl rfl trivial ?_
  refine ⟨_, rfl, ?_⟩
  refine q_iadd rfl rfl (q_tn (z := 10) rfl ?_)
  refine q_lshl rfl rfl (q_tnl (z := 1024) rfl ?_)
  refine q_lor rfl rfl (q_tnl (z := 1025) rfl ?_)
  refine q_putf rfl rfl (by decide) rfl (by decide) rfl trivial ?_
  refine q_icc3 (z := 2) rfl rfl rfl rfl rfl ?_
  refine q_goto rfl ?_
  refine q_iload_n rfl rfl rfl ?_
  refine q_iconst rfl rfl ?_
  refine q_icge rfl rfl (fun c60 => absurd c60 (by decide)) (fun c60 => ?_)
  refine q_aload_n rfl rfl rfl ?_
  refine q_dupr rfl rfl ?_
  refine q_getf rfl rfl (by decide) rfl rfl ?_
  refine q_lconst rfl rfl ?_
  refine q_bipush rfl rfl ?_
  refine q_iload_n rfl rfl rfl ?_
  refine q_imul rfl rfl (q_tn (z := 20) rfl ?_)
  refine q_lload_n rfl rfl rfl ?_
  refine q_iload_n rfl rfl rfl ?_
  refine q_nS2 rfl rfl (Or.inl rfl) rfl rfl ⟨rfl, rfl⟩ rfl ?_
  change PQ _ _ _ mm_X0_place 0 [.long 0, pm_un, .int 2] [] _ _ 0 0 _
  refine q_lload_n rfl rfl rfl ?_
  refine q_bipush rfl rfl ?_
  refine q_iconst rfl rfl ?_
  refine q_iload_n rfl rfl rfl ?_
  refine q_imul rfl rfl (q_tn (z := 8) rfl ?_)
  refine q_iadd rfl rfl (q_tn (z := 44) rfl ?_)
  refine q_lushr rfl rfl (q_tnl (z := 0) rfl ?_)
  refine q_l2i rfl rfl (q_tn (z := 0) rfl ?_)
  refine q_bipush rfl rfl ?_
  refine q_iand rfl rfl (q_tn (z := 0) rfl ?_)
  refine q_iret rfl rfl trivial ?_
  refine ⟨_, rfl, ?_⟩
  refine q_iadd rfl rfl (q_tn (z := 20) rfl ?_)
  refine q_lshl rfl rfl (q_tnl (z := 1048576) rfl ?_)
  refine q_lor rfl rfl (q_tnl (z := 1049601) rfl ?_)
  refine q_putf rfl rfl (by decide) rfl (by decide) rfl trivial ?_
  refine q_icc3 (z := 3) rfl rfl rfl rfl rfl ?_
  refine q_goto rfl ?_
  refine q_iload_n rfl rfl rfl ?_
  refine q_iconst rfl rfl ?_
  refine q_icge rfl rfl (fun c61 => absurd c61 (by decide)) (fun c61 => ?_)
  refine q_aload_n rfl rfl rfl ?_
  refine q_dupr rfl rfl ?_
  refine q_getf rfl rfl (by decide) rfl rfl ?_
  refine q_lconst rfl rfl ?_
  refine q_bipush rfl rfl ?_
  refine q_iload_n rfl rfl rfl ?_
  refine q_imul rfl rfl (q_tn (z := 30) rfl ?_)
  refine q_lload_n rfl rfl rfl ?_
  refine q_iload_n rfl rfl rfl ?_
  refine q_nS2 rfl rfl (Or.inl rfl) rfl rfl ⟨rfl, rfl⟩ rfl ?_
  change PQ _ _ _ mm_X0_place 0 [.long 0, pm_un, .int 3] [] _ _ 0 0 _
  refine q_lload_n rfl rfl rfl ?_
  refine q_bipush rfl rfl ?_
  refine q_iconst rfl rfl ?_
  refine q_iload_n rfl rfl rfl ?_
  refine q_imul rfl rfl (q_tn (z := 12) rfl ?_)
  refine q_iadd rfl rfl (q_tn (z := 48) rfl ?_)
  refine q_lushr rfl rfl (q_tnl (z := 0) rfl ?_)
  refine q_l2i rfl rfl (q_tn (z := 0) rfl ?_)
  refine q_bipush rfl rfl ?_
  refine q_iand rfl rfl (q_tn (z := 0) rfl ?_)
  refine q_iret rfl rfl trivial ?_
  refine ⟨_, rfl, ?_⟩
  refine q_iadd rfl rfl (q_tn (z := 30) rfl ?_)
  refine q_lshl rfl rfl (q_tnl (z := 1073741824) rfl ?_)
  refine q_lor rfl rfl (q_tnl (z := 1074791425) rfl ?_)
  refine q_putf rfl rfl (by decide) rfl (by decide) rfl trivial ?_
  refine q_icc3 (z := 4) rfl rfl rfl rfl rfl ?_
  refine q_goto rfl ?_
  refine q_iload_n rfl rfl rfl ?_
  refine q_iconst rfl rfl ?_
  refine q_icge rfl rfl (fun c62 => ?_) (fun c62 => absurd (by decide) c62)
  refine q_ret rfl rfl ?_
  refine ⟨rfl, ?_⟩
  refine q_ret rfl rfl ?_
  refine ⟨rfl, ?_⟩
  refine q_aload_n rfl rfl rfl ?_
  refine q_getf rfl rfl (by decide) rfl rfl ?_
  refine q_ifne rfl rfl (fun c63 => ?_) (fun c63 => absurd (by decide) c63)
  refine q_iload_n rfl rfl rfl ?_
  refine q_ifeq rfl rfl (fun c64 => ?_) (fun c64 => absurd (by decide) c64)
  refine q_icc3 (z := 1) rfl rfl rfl rfl rfl ?_
  refine q_goto rfl ?_
  refine q_iload_n rfl rfl rfl ?_
  refine q_sipush rfl rfl ?_
  refine q_icge rfl rfl (fun c65 => absurd c65 (by decide)) (fun c65 => ?_)
  refine q_iload_n rfl rfl rfl ?_
  refine q_aload_n rfl rfl rfl ?_
  refine q_getf rfl rfl (by decide) rfl rfl ?_
  refine q_icge rfl rfl (fun c66 => ?_) (fun c66 => absurd (by decide) c66)
  refine q_ret rfl rfl ?_
  refine ⟨rfl, ?_⟩
  refine q_aload_n rfl rfl rfl ?_
  refine q_getf rfl rfl (by decide) (FW_0 S hW) rfl ?_
  refine q_iconst rfl rfl ?_
  refine q_putf rfl rfl (by decide) rfl (by decide) rfl trivial ?_
  refine q_aload_n rfl rfl rfl ?_
  refine q_getf rfl rfl (by decide) (FW_0 S hW) rfl ?_
  refine q_iload_n rfl rfl rfl ?_
  refine q_aload_n rfl rfl rfl ?_
  refine q_getf rfl rfl (by decide) rfl rfl ?_
  refine q_ifeq rfl rfl (fun c67 => ?_) (fun c67 => absurd (by decide) c67)
  refine q_aload_n rfl rfl rfl ?_
  refine q_getf rfl rfl (by decide) rfl rfl ?_
  refine q_iast rfl rfl (by decide) (FW_44 S hW) (by decide) ?_
  refine q_aload_n rfl rfl rfl ?_
  refine q_getf rfl rfl (by decide) (FW_0 S hW) rfl ?_
  refine q_iload_n rfl rfl rfl ?_
  refine q_aload_n rfl rfl rfl ?_
  refine q_getf rfl rfl (by decide) rfl rfl ?_
  refine q_last rfl rfl (by decide) (FW_45 S hW) (by decide) ?_
  refine q_aload_n rfl rfl rfl ?_
  refine q_getf rfl rfl (by decide) (FW_0 S hW) rfl ?_
  refine q_iload_n rfl rfl rfl ?_
  refine q_iald rfl rfl (by decide) rfl (by decide) (q_tn (z := 1) rfl ?_)
  refine q_iret rfl rfl trivial ?_
  refine ⟨_, rfl, ?_⟩
  refine q_bipush rfl rfl ?_
  refine q_icne rfl rfl (fun c68 => absurd c68 (by decide)) (fun c68 => ?_)
  refine q_iconst rfl rfl ?_
  refine q_ior rfl rfl (q_tn (z := 0) rfl ?_)
  refine q_ist1n rfl rfl rfl rfl ?_
  refine q_icc2 (z := 1) rfl rfl rfl rfl rfl ?_
  refine q_goto rfl ?_
  refine q_iload_n rfl rfl rfl ?_
  refine q_iconst rfl rfl ?_
  refine q_icge rfl rfl (fun c69 => absurd c69 (by decide)) (fun c69 => ?_)
  refine q_iload_n rfl rfl rfl ?_
  refine q_aload_n rfl rfl rfl ?_
  refine q_iload_n rfl rfl rfl ?_
  refine q_nV1 rfl rfl (Or.inl rfl) rfl rfl rfl (by decide) (FW_0 S hW) ⟨rfl, rfl⟩ rfl ?_
  change PQ _ _ _ mm_X11_sizeOf 0 [.ref 0, .int 1, pm_un] [] _ _ 0 0 _
  refine q_aload_n rfl rfl rfl ?_
  refine q_getf rfl rfl (by decide) (FW_0 S hW) rfl ?_
  refine q_iload_n rfl rfl rfl ?_
  refine q_iald rfl rfl (by decide) rfl (by decide) (q_tn (z := 0) rfl ?_)
  refine q_ifne rfl rfl (fun c70 => ?_) (fun c70 => absurd (by decide) c70)
  refine q_iload_n rfl rfl rfl ?_
  refine q_ifne rfl rfl (fun c71 => absurd c71 (by decide)) (fun c71 => ?_)
  refine q_aload_n rfl rfl rfl ?_
  refine q_getf rfl rfl (by decide) (FW_0 S hW) rfl ?_
  refine q_ast2n rfl rfl rfl rfl ?_
  refine q_aload_n rfl rfl rfl ?_
  refine q_getf rfl rfl (by decide) (FW_0 S hW) rfl ?_
  refine q_iload_n rfl rfl rfl ?_
  refine q_putf rfl rfl (by decide) rfl (by decide) rfl trivial ?_
  refine q_aload_n rfl rfl rfl ?_
  refine q_aload_n rfl rfl rfl ?_
  refine q_getf rfl rfl (by decide) (FW_0 S hW) rfl ?_
  refine q_iconst rfl rfl ?_
  refine q_nV2v rfl rfl (Or.inl rfl) rfl rfl rfl (by decide) (FW_16 S hW) ⟨rfl, rfl⟩ rfl ?_
  change PQ _ _ _ mm_X7_explore 0 [.ref 16, .ref 7, .int 0, pm_un] [] _ _ 0 0 _
  refine q_aload_n rfl rfl rfl ?_
  refine q_nV0v rfl rfl (Or.inl rfl) rfl rfl rfl (by decide) (FW_16 S hW) ⟨rfl, rfl⟩ rfl ?_
  change PQ _ _ _ mm_X7_clear 0 [.ref 16, pm_un] [] _ _ 0 0 _
  refine q_iconst rfl rfl ?_
  refine q_ist1n rfl rfl rfl rfl ?_
  refine q_iload_n rfl rfl rfl ?_
  refine q_aload_n rfl rfl rfl ?_
  refine q_getf rfl rfl (by decide) (FW_16 S hW) rfl ?_
  refine q_icge rfl rfl (fun c72 => ?_) (fun c72 => absurd (by decide) c72)
  refine q_aload_n rfl rfl rfl ?_
  refine q_iconst rfl rfl ?_
  refine q_putf rfl rfl (by decide) (FW_16 S hW) (by decide) rfl trivial ?_
  refine q_aload_n rfl rfl rfl ?_
  refine q_iconst rfl rfl ?_
  refine q_putf rfl rfl (by decide) rfl (by decide) rfl rfl ?_
  refine q_aload_n rfl rfl rfl ?_
  refine q_iconst rfl rfl ?_
  refine q_putf rfl rfl (by decide) rfl (by decide) rfl rfl ?_
  refine q_aload_n rfl rfl rfl ?_
  refine q_lconst rfl rfl ?_
  refine q_putf rfl rfl (by decide) rfl (by decide) rfl trivial ?_
  refine q_ret rfl rfl ?_
  refine ⟨rfl, ?_⟩
  refine q_aload_n rfl rfl rfl ?_
  refine q_aload_n rfl rfl rfl ?_
  refine q_nV0 rfl rfl (Or.inl rfl) rfl rfl rfl (by decide) rfl ⟨rfl, rfl⟩ rfl ?_
  change PQ _ _ _ mm_X6_first 0 [.ref 7, pm_un, pm_un, pm_un] [] _ _ 0 0 _
  refine q_lconst rfl rfl ?_
  refine q_lst1n rfl rfl rfl rfl ?_
  refine q_iconst rfl rfl ?_
  refine q_ist3n rfl rfl rfl rfl ?_
  refine q_iload_n rfl rfl rfl ?_
  refine q_iconst rfl rfl ?_
  refine q_icge rfl rfl (fun c73 => absurd c73 (by decide)) (fun c73 => ?_)
  refine q_lload_n rfl rfl rfl ?_
  refine q_iload_n rfl rfl rfl ?_
  refine q_aload_n rfl rfl rfl ?_
  refine q_getf rfl rfl (by decide) rfl rfl ?_
  refine q_getf rfl rfl (by decide) (FW_1 S hW) rfl ?_
  refine q_iload_n rfl rfl rfl ?_
  refine q_iald rfl rfl (by decide) (FW_2 S hW) (by decide) (q_tn (z := 0) rfl ?_)
  refine q_nS3 rfl rfl (Or.inl rfl) rfl rfl ⟨rfl, rfl⟩ rfl ?_
  change PQ _ _ _ mm_X0_withPlace 0 [.long 0, pm_un, .int 0, .int 0, pm_un] [] _ _ 0 0 _
  refine q_bipush rfl rfl ?_
  refine q_iconst rfl rfl ?_
  refine q_iload_n rfl rfl rfl ?_
  refine q_imul rfl rfl (q_tn (z := 0) rfl ?_)
  refine q_iadd rfl rfl (q_tn (z := 36) rfl ?_)
  refine q_ist4 rfl rfl rfl rfl ?_
  refine q_lload_n rfl rfl rfl ?_
  refine q_ldc2 rfl rfl ?_
  refine q_iload rfl rfl rfl ?_
  refine q_lshl rfl rfl (q_tnl (z := 1030792151040) rfl ?_)
  refine q_ldc2 rfl rfl ?_
  refine q_lxor rfl rfl (q_tnl (z := (-1030792151041)) rfl ?_)
  refine q_land rfl rfl (q_tnl (z := 0) rfl ?_)
  refine q_iload_n rfl rfl rfl ?_
  refine q_i2l rfl rfl (q_tnl (z := 0) rfl ?_)
  refine q_iload rfl rfl rfl ?_
  refine q_lshl rfl rfl (q_tnl (z := 0) rfl ?_)
  refine q_lor rfl rfl (q_tnl (z := 0) rfl ?_)
  refine q_lret rfl rfl trivial ?_
  refine ⟨_, rfl, ?_⟩
  refine q_lst1n rfl rfl rfl rfl ?_
  refine q_icc3 (z := 1) rfl rfl rfl rfl rfl ?_
  refine q_goto rfl ?_
  refine q_iload_n rfl rfl rfl ?_
  refine q_iconst rfl rfl ?_
  refine q_icge rfl rfl (fun c74 => absurd c74 (by decide)) (fun c74 => ?_)
  refine q_lload_n rfl rfl rfl ?_
  refine q_iload_n rfl rfl rfl ?_
  refine q_aload_n rfl rfl rfl ?_
  refine q_getf rfl rfl (by decide) rfl rfl ?_
  refine q_getf rfl rfl (by decide) (FW_1 S hW) rfl ?_
  refine q_iload_n rfl rfl rfl ?_
  refine q_iald rfl rfl (by decide) (FW_2 S hW) (by decide) (q_tn (z := 0) rfl ?_)
  refine q_nS3 rfl rfl (Or.inl rfl) rfl rfl ⟨rfl, rfl⟩ rfl ?_
  change PQ _ _ _ mm_X0_withPlace 0 [.long 0, pm_un, .int 1, .int 0, pm_un] [] _ _ 0 0 _
  refine q_bipush rfl rfl ?_
  refine q_iconst rfl rfl ?_
  refine q_iload_n rfl rfl rfl ?_
  refine q_imul rfl rfl (q_tn (z := 4) rfl ?_)
  refine q_iadd rfl rfl (q_tn (z := 40) rfl ?_)
  refine q_ist4 rfl rfl rfl rfl ?_
  refine q_lload_n rfl rfl rfl ?_
  refine q_ldc2 rfl rfl ?_
  refine q_iload rfl rfl rfl ?_
  refine q_lshl rfl rfl (q_tnl (z := 16492674416640) rfl ?_)
  refine q_ldc2 rfl rfl ?_
  refine q_lxor rfl rfl (q_tnl (z := (-16492674416641)) rfl ?_)
  refine q_land rfl rfl (q_tnl (z := 0) rfl ?_)
  refine q_iload_n rfl rfl rfl ?_
  refine q_i2l rfl rfl (q_tnl (z := 0) rfl ?_)
  refine q_iload rfl rfl rfl ?_
  refine q_lshl rfl rfl (q_tnl (z := 0) rfl ?_)
  refine q_lor rfl rfl (q_tnl (z := 0) rfl ?_)
  refine q_lret rfl rfl trivial ?_
  refine ⟨_, rfl, ?_⟩
  refine q_lst1n rfl rfl rfl rfl ?_
  refine q_icc3 (z := 2) rfl rfl rfl rfl rfl ?_
  refine q_goto rfl ?_
  refine q_iload_n rfl rfl rfl ?_
  refine q_iconst rfl rfl ?_
  refine q_icge rfl rfl (fun c75 => absurd c75 (by decide)) (fun c75 => ?_)
  refine q_lload_n rfl rfl rfl ?_
  refine q_iload_n rfl rfl rfl ?_
  refine q_aload_n rfl rfl rfl ?_
  refine q_getf rfl rfl (by decide) rfl rfl ?_
  refine q_getf rfl rfl (by decide) (FW_1 S hW) rfl ?_
  refine q_iload_n rfl rfl rfl ?_
  refine q_iald rfl rfl (by decide) (FW_2 S hW) (by decide) (q_tn (z := 0) rfl ?_)
  refine q_nS3 rfl rfl (Or.inl rfl) rfl rfl ⟨rfl, rfl⟩ rfl ?_
  change PQ _ _ _ mm_X0_withPlace 0 [.long 0, pm_un, .int 2, .int 0, pm_un] [] _ _ 0 0 _
  refine q_bipush rfl rfl ?_
  refine q_iconst rfl rfl ?_
  refine q_iload_n rfl rfl rfl ?_
  refine q_imul rfl rfl (q_tn (z := 8) rfl ?_)
  refine q_iadd rfl rfl (q_tn (z := 44) rfl ?_)
  refine q_ist4 rfl rfl rfl rfl ?_
  refine q_lload_n rfl rfl rfl ?_
  refine q_ldc2 rfl rfl ?_
  refine q_iload rfl rfl rfl ?_
  refine q_lshl rfl rfl (q_tnl (z := 263882790666240) rfl ?_)
  refine q_ldc2 rfl rfl ?_
  refine q_lxor rfl rfl (q_tnl (z := (-263882790666241)) rfl ?_)
  refine q_land rfl rfl (q_tnl (z := 0) rfl ?_)
  refine q_iload_n rfl rfl rfl ?_
  refine q_i2l rfl rfl (q_tnl (z := 0) rfl ?_)
  refine q_iload rfl rfl rfl ?_
  refine q_lshl rfl rfl (q_tnl (z := 0) rfl ?_)
  refine q_lor rfl rfl (q_tnl (z := 0) rfl ?_)
  refine q_lret rfl rfl trivial ?_
  refine ⟨_, rfl, ?_⟩
  refine q_lst1n rfl rfl rfl rfl ?_
  refine q_icc3 (z := 3) rfl rfl rfl rfl rfl ?_
  refine q_goto rfl ?_
  refine q_iload_n rfl rfl rfl ?_
  refine q_iconst rfl rfl ?_
  refine q_icge rfl rfl (fun c76 => absurd c76 (by decide)) (fun c76 => ?_)
  refine q_lload_n rfl rfl rfl ?_
  refine q_iload_n rfl rfl rfl ?_
  refine q_aload_n rfl rfl rfl ?_
  refine q_getf rfl rfl (by decide) rfl rfl ?_
  refine q_getf rfl rfl (by decide) (FW_1 S hW) rfl ?_
  refine q_iload_n rfl rfl rfl ?_
  refine q_iald rfl rfl (by decide) (FW_2 S hW) (by decide) (q_tn (z := 0) rfl ?_)
  refine q_nS3 rfl rfl (Or.inl rfl) rfl rfl ⟨rfl, rfl⟩ rfl ?_
  change PQ _ _ _ mm_X0_withPlace 0 [.long 0, pm_un, .int 3, .int 0, pm_un] [] _ _ 0 0 _
  refine q_bipush rfl rfl ?_
  refine q_iconst rfl rfl ?_
  refine q_iload_n rfl rfl rfl ?_
  refine q_imul rfl rfl (q_tn (z := 12) rfl ?_)
  refine q_iadd rfl rfl (q_tn (z := 48) rfl ?_)
  refine q_ist4 rfl rfl rfl rfl ?_
  refine q_lload_n rfl rfl rfl ?_
  refine q_ldc2 rfl rfl ?_
  refine q_iload rfl rfl rfl ?_
  refine q_lshl rfl rfl (q_tnl (z := 4222124650659840) rfl ?_)
  refine q_ldc2 rfl rfl ?_
  refine q_lxor rfl rfl (q_tnl (z := (-4222124650659841)) rfl ?_)
  refine q_land rfl rfl (q_tnl (z := 0) rfl ?_)
  refine q_iload_n rfl rfl rfl ?_
  refine q_i2l rfl rfl (q_tnl (z := 0) rfl ?_)
  refine q_iload rfl rfl rfl ?_
  refine q_lshl rfl rfl (q_tnl (z := 0) rfl ?_)
  refine q_lor rfl rfl (q_tnl (z := 0) rfl ?_)
  refine q_lret rfl rfl trivial ?_
  refine ⟨_, rfl, ?_⟩
  refine q_lst1n rfl rfl rfl rfl ?_
  refine q_icc3 (z := 4) rfl rfl rfl rfl rfl ?_
  refine q_goto rfl ?_
  refine q_iload_n rfl rfl rfl ?_
  refine q_iconst rfl rfl ?_
  refine q_icge rfl rfl (fun c77 => ?_) (fun c77 => absurd (by decide) c77)
  refine q_lload_n rfl rfl rfl ?_
  refine q_lret rfl rfl trivial ?_
  refine ⟨_, rfl, ?_⟩
  refine q_iconst rfl rfl ?_
  refine q_iconst rfl rfl ?_
  refine q_nV3 rfl rfl (Or.inl rfl) rfl rfl rfl (by decide) rfl ⟨rfl, rfl⟩ rfl ?_
  change PQ _ _ _ mm_X7_numberOf 0 [.ref 16, .long 0, pm_un, .int (-1), .int (-1), pm_un, pm_un, pm_un] [] _ _ 0 0 _
  refine q_lload_n rfl rfl rfl ?_
  refine q_ldc2 rfl rfl ?_
  refine q_lmul rfl rfl (q_tnl (z := 0) rfl ?_)
  refine q_bipush rfl rfl ?_
  refine q_lushr rfl rfl (q_tnl (z := 0) rfl ?_)
  refine q_l2i rfl rfl (q_tn (z := 0) rfl ?_)
  refine q_sipush rfl rfl ?_
  refine q_iand rfl rfl (q_tn (z := 0) rfl ?_)
  refine q_ist5 rfl rfl rfl rfl ?_
  refine q_iconst rfl rfl ?_
  refine q_ist6 rfl rfl rfl rfl ?_
  refine q_iload rfl rfl rfl ?_
  refine q_sipush rfl rfl ?_
  refine q_icge rfl rfl (fun c78 => absurd c78 (by decide)) (fun c78 => ?_)
  refine q_aload_n rfl rfl rfl ?_
  refine q_getf rfl rfl (by decide) rfl rfl ?_
  refine q_iload rfl rfl rfl ?_
  refine q_iald rfl rfl (by decide) (FW_22 S hW) (by decide) (q_tn (z := 0) rfl ?_)
  refine q_iconst rfl rfl ?_
  refine q_isub rfl rfl (q_tn (z := (-1)) rfl ?_)
  refine q_ist7 rfl rfl rfl rfl ?_
  refine q_iload rfl rfl rfl ?_
  refine q_ifge rfl rfl (fun c79 => absurd c79 (by decide)) (fun c79 => ?_)
  refine q_aload_n rfl rfl rfl ?_
  refine q_lload_n rfl rfl rfl ?_
  refine q_iload rfl rfl rfl ?_
  refine q_iload_n rfl rfl rfl ?_
  refine q_iload rfl rfl rfl ?_
  refine q_nV4 rfl rfl (Or.inl rfl) rfl rfl rfl (by decide) rfl ⟨rfl, rfl⟩ rfl ?_
  change PQ _ _ _ mm_X7_newNumber 0 [.ref 16, .long 0, pm_un, .int 0, .int (-1), .int (-1), pm_un] [] _ _ 0 0 _
  refine q_aload_n rfl rfl rfl ?_
  refine q_getf rfl rfl (by decide) rfl rfl ?_
  refine q_sipush rfl rfl ?_
  refine q_iclt rfl rfl (fun c80 => ?_) (fun c80 => absurd (by decide) c80)
  refine q_aload_n rfl rfl rfl ?_
  refine q_dupr rfl rfl ?_
  refine q_getf rfl rfl (by decide) rfl rfl ?_
  refine q_dupx1 rfl rfl ?_
  refine q_iconst rfl rfl ?_
  refine q_iadd rfl rfl (q_tn (z := 1) rfl ?_)
  refine q_putf rfl rfl (by decide) rfl (by decide) rfl trivial ?_
  refine q_ist6 rfl rfl rfl rfl ?_
  refine q_aload_n rfl rfl rfl ?_
  refine q_getf rfl rfl (by decide) rfl rfl ?_
  refine q_iload rfl rfl rfl ?_
  refine q_lload_n rfl rfl rfl ?_
  refine q_last rfl rfl (by decide) (FW_17 S hW) (by decide) ?_
  refine q_aload_n rfl rfl rfl ?_
  refine q_getf rfl rfl (by decide) rfl rfl ?_
  refine q_iload rfl rfl rfl ?_
  refine q_iload rfl rfl rfl ?_
  refine q_iast rfl rfl (by decide) (FW_18 S hW) (by decide) ?_
  refine q_aload_n rfl rfl rfl ?_
  refine q_getf rfl rfl (by decide) rfl rfl ?_
  refine q_iload rfl rfl rfl ?_
  refine q_iload rfl rfl rfl ?_
  refine q_iast rfl rfl (by decide) (FW_19 S hW) (by decide) ?_
  refine q_aload_n rfl rfl rfl ?_
  refine q_getf rfl rfl (by decide) rfl rfl ?_
  refine q_iload rfl rfl rfl ?_
  refine q_iload_n rfl rfl rfl ?_
  refine q_iast rfl rfl (by decide) (FW_23 S hW) (by decide) ?_
  as_aux_lemma =>
    refine q_aload_n rfl rfl rfl ?_
    refine q_getf rfl rfl (by decide) rfl rfl ?_
    refine q_iload_n rfl rfl rfl ?_
    refine q_iload rfl rfl rfl ?_
    refine q_iconst rfl rfl ?_
    refine q_iadd rfl rfl (q_tn (z := 1) rfl ?_)
    refine q_iast rfl rfl (by decide) (FW_22 S hW) (by decide) ?_
    refine q_iload rfl rfl rfl ?_
    refine q_iret rfl rfl trivial ?_
    refine ⟨_, rfl, ?_⟩
    refine q_iret rfl rfl trivial ?_
    refine ⟨_, rfl, ?_⟩
    refine q_pop rfl rfl ?_
    refine q_iconst rfl rfl ?_
    refine q_ist3n rfl rfl rfl rfl ?_
    refine q_iload_n rfl rfl rfl ?_
    refine q_sipush rfl rfl ?_
    refine q_icge rfl rfl (fun c81 => absurd c81 (by decide)) (fun c81 => ?_)
    refine q_iload_n rfl rfl rfl ?_
    refine q_aload_n rfl rfl rfl ?_
    refine q_getf rfl rfl (by decide) rfl rfl ?_
    refine q_icge rfl rfl (fun c82 => absurd c82 (by decide)) (fun c82 => ?_)
    refine q_aload_n rfl rfl rfl ?_
    refine q_aload_n rfl rfl rfl ?_
    refine q_iload_n rfl rfl rfl ?_
    refine q_nV2v rfl rfl (Or.inl rfl) rfl rfl rfl (by decide) rfl ⟨rfl, rfl⟩ rfl ?_
    change PQ _ _ _ mm_X7_lookAt 0 [.ref 16, .ref 7, .int 0, pm_un, pm_un, pm_un, pm_un, pm_un, pm_un, pm_un] [] _ _ 0 0 _
    refine q_aload_n rfl rfl rfl ?_
    refine q_getf rfl rfl (by decide) rfl rfl ?_
    refine q_iload_n rfl rfl rfl ?_
    refine q_lald rfl rfl (by decide) rfl (by decide) (q_tnl (z := 0) rfl ?_)
    refine q_lst3n rfl rfl rfl rfl ?_
    refine q_aload_n rfl rfl rfl ?_
    refine q_aload_n rfl rfl rfl ?_
    refine q_lload_n rfl rfl rfl ?_
    refine q_nV1 rfl rfl (Or.inl rfl) rfl rfl rfl (by decide) rfl ⟨rfl, rfl⟩ rfl ?_
    change PQ _ _ _ mm_X6_ableHands 0 [.ref 7, .long 0, pm_un, pm_un, pm_un, pm_un] [] _ _ 0 0 _
    refine q_aload_n rfl rfl rfl ?_
    refine q_lload_n rfl rfl rfl ?_
    refine q_nV1 rfl rfl (Or.inl rfl) rfl rfl rfl (by decide) rfl ⟨rfl, rfl⟩ rfl ?_
    change PQ _ _ _ mm_X6_allMeet 0 [.ref 7, .long 0, pm_un, pm_un, pm_un] [] _ _ 0 0 _
    refine q_iconst rfl rfl ?_
    refine q_ist3n rfl rfl rfl rfl ?_
    refine q_iload_n rfl rfl rfl ?_
    refine q_aload_n rfl rfl rfl ?_
    refine q_getf rfl rfl (by decide) rfl rfl ?_
    refine q_getf rfl rfl (by decide) (FW_1 S hW) rfl ?_
    refine q_icge rfl rfl (fun c83 => absurd c83 (by decide)) (fun c83 => ?_)
    refine q_aload_n rfl rfl rfl ?_
    refine q_getf rfl rfl (by decide) rfl rfl ?_
    refine q_iload_n rfl rfl rfl ?_
    refine q_lload_n rfl rfl rfl ?_
    refine q_iload_n rfl rfl rfl ?_
    refine q_nS2 rfl rfl (Or.inl rfl) rfl rfl ⟨rfl, rfl⟩ rfl ?_
    change PQ _ _ _ mm_X0_position 0 [.long 0, pm_un, .int 0] [] _ _ 0 0 _
    refine q_lload_n rfl rfl rfl ?_
    refine q_bipush rfl rfl ?_
    refine q_iload_n rfl rfl rfl ?_
    refine q_imul rfl rfl (q_tn (z := 0) rfl ?_)
    refine q_lushr rfl rfl (q_tnl (z := 0) rfl ?_)
    refine q_l2i rfl rfl (q_tn (z := 0) rfl ?_)
    refine q_bipush rfl rfl ?_
    refine q_iand rfl rfl (q_tn (z := 0) rfl ?_)
    refine q_iret rfl rfl trivial ?_
    refine ⟨_, rfl, ?_⟩
    refine q_nV2 rfl rfl (Or.inl rfl) rfl rfl rfl (by decide) (FW_1 S hW) ⟨rfl, rfl⟩ rfl ?_
    change PQ _ _ _ mm_X8_cellOf 0 [.ref 1, .int 0, .int 0, pm_un] [] _ _ 0 0 _
    refine q_iload_n rfl rfl rfl ?_
    refine q_iflt rfl rfl (fun c84 => absurd c84 (by decide)) (fun c84 => ?_)
    refine q_iload_n rfl rfl rfl ?_
    refine q_aload_n rfl rfl rfl ?_
    refine q_getf rfl rfl (by decide) (FW_1 S hW) rfl ?_
    refine q_icge rfl rfl (fun c85 => absurd c85 (by decide)) (fun c85 => ?_)
    refine q_iload_n rfl rfl rfl ?_
    refine q_iflt rfl rfl (fun c86 => absurd c86 (by decide)) (fun c86 => ?_)
    refine q_iload_n rfl rfl rfl ?_
    refine q_aload_n rfl rfl rfl ?_
    refine q_getf rfl rfl (by decide) (FW_1 S hW) rfl ?_
    refine q_iload_n rfl rfl rfl ?_
    refine q_iald rfl rfl (by decide) (FW_3 S hW) (by decide) (q_tn (z := 0) rfl ?_)
    refine q_icge rfl rfl (fun c87 => ?_) (fun c87 => absurd (by decide) c87)
    refine q_iconst rfl rfl ?_
    refine q_ist3n rfl rfl rfl rfl ?_
    refine q_iload_n rfl rfl rfl ?_
    refine q_ifeq rfl rfl (fun c88 => ?_) (fun c88 => absurd (by decide) c88)
    refine q_iconst rfl rfl ?_
    refine q_iret rfl rfl trivial ?_
    refine ⟨_, rfl, ?_⟩
    refine q_ist4 rfl rfl rfl rfl ?_
    refine q_iload rfl rfl rfl ?_
    refine q_iflt rfl rfl (fun c89 => ?_) (fun c89 => absurd (by decide) c89)
    refine q_icc3 (z := 1) rfl rfl rfl rfl rfl ?_
    refine q_goto rfl ?_
    refine q_iload_n rfl rfl rfl ?_
    refine q_aload_n rfl rfl rfl ?_
    refine q_getf rfl rfl (by decide) rfl rfl ?_
    refine q_getf rfl rfl (by decide) (FW_1 S hW) rfl ?_
    refine q_icge rfl rfl (fun c90 => ?_) (fun c90 => absurd (by decide) c90)
    refine q_iconst rfl rfl ?_
    refine q_iret rfl rfl rfl ?_
    refine ⟨_, rfl, ?_⟩
    refine q_ist3n rfl rfl rfl rfl ?_
    refine q_iconst rfl rfl ?_
    refine q_ist4 rfl rfl rfl rfl ?_
    refine q_iconst rfl rfl ?_
    refine q_ist5 rfl rfl rfl rfl ?_
    refine q_iload rfl rfl rfl ?_
    refine q_aload_n rfl rfl rfl ?_
    refine q_getf rfl rfl (by decide) rfl rfl ?_
    refine q_getf rfl rfl (by decide) (FW_1 S hW) rfl ?_
    refine q_icge rfl rfl (fun c91 => absurd c91 (by decide)) (fun c91 => ?_)
    refine q_aload_n rfl rfl rfl ?_
    refine q_lload_n rfl rfl rfl ?_
    refine q_iload rfl rfl rfl ?_
    refine q_iload_n rfl rfl rfl ?_
    refine q_nV3 rfl rfl (Or.inl rfl) rfl rfl rfl (by decide) rfl ⟨rfl, rfl⟩ rfl ?_
    change PQ _ _ _ mm_X6_isAble 0 [.ref 7, .long 0, pm_un, .int 0, .int 1, pm_un, pm_un, pm_un] [] _ _ 0 0 _
    refine q_aload_n rfl rfl rfl ?_
    refine q_getf rfl rfl (by decide) rfl rfl ?_
    refine q_iload_n rfl rfl rfl ?_
    refine q_lload_n rfl rfl rfl ?_
    refine q_iload_n rfl rfl rfl ?_
    refine q_nS2 rfl rfl (Or.inl rfl) rfl rfl ⟨rfl, rfl⟩ rfl ?_
    change PQ _ _ _ mm_X0_position 0 [.long 0, pm_un, .int 0] [] _ _ 0 0 _
    refine q_lload_n rfl rfl rfl ?_
    refine q_bipush rfl rfl ?_
    refine q_iload_n rfl rfl rfl ?_
    refine q_imul rfl rfl (q_tn (z := 0) rfl ?_)
    refine q_lushr rfl rfl (q_tnl (z := 0) rfl ?_)
    refine q_l2i rfl rfl (q_tn (z := 0) rfl ?_)
    refine q_bipush rfl rfl ?_
    refine q_iand rfl rfl (q_tn (z := 0) rfl ?_)
    refine q_iret rfl rfl trivial ?_
    refine ⟨_, rfl, ?_⟩
    refine q_nV2 rfl rfl (Or.inl rfl) rfl rfl rfl (by decide) (FW_1 S hW) ⟨rfl, rfl⟩ rfl ?_
    change PQ _ _ _ mm_X8_cellOf 0 [.ref 1, .int 0, .int 0, pm_un] [] _ _ 0 0 _
    refine q_iload_n rfl rfl rfl ?_
    refine q_iflt rfl rfl (fun c92 => absurd c92 (by decide)) (fun c92 => ?_)
    refine q_iload_n rfl rfl rfl ?_
    refine q_aload_n rfl rfl rfl ?_
    refine q_getf rfl rfl (by decide) (FW_1 S hW) rfl ?_
    refine q_icge rfl rfl (fun c93 => absurd c93 (by decide)) (fun c93 => ?_)
    refine q_iload_n rfl rfl rfl ?_
    refine q_iflt rfl rfl (fun c94 => absurd c94 (by decide)) (fun c94 => ?_)
    refine q_iload_n rfl rfl rfl ?_
    refine q_aload_n rfl rfl rfl ?_
    refine q_getf rfl rfl (by decide) (FW_1 S hW) rfl ?_
    refine q_iload_n rfl rfl rfl ?_
    refine q_iald rfl rfl (by decide) (FW_3 S hW) (by decide) (q_tn (z := 0) rfl ?_)
    refine q_icge rfl rfl (fun c95 => ?_) (fun c95 => absurd (by decide) c95)
    refine q_iconst rfl rfl ?_
    refine q_ist3n rfl rfl rfl rfl ?_
    refine q_iload_n rfl rfl rfl ?_
    refine q_ifeq rfl rfl (fun c96 => ?_) (fun c96 => absurd (by decide) c96)
    refine q_iconst rfl rfl ?_
    refine q_iret rfl rfl trivial ?_
    refine ⟨_, rfl, ?_⟩
    refine q_ist5 rfl rfl rfl rfl ?_
    refine q_iload rfl rfl rfl ?_
    refine q_ifge rfl rfl (fun c97 => absurd c97 (by decide)) (fun c97 => ?_)
    refine q_iconst rfl rfl ?_
    refine q_iret rfl rfl rfl ?_
    refine ⟨_, rfl, ?_⟩
    refine q_ifeq rfl rfl (fun c98 => ?_) (fun c98 => absurd (by decide) c98)
    refine q_icc5 (z := 1) rfl rfl rfl rfl rfl ?_
    refine q_goto rfl ?_
    refine q_iload rfl rfl rfl ?_
    refine q_aload_n rfl rfl rfl ?_
    refine q_getf rfl rfl (by decide) rfl rfl ?_
    refine q_getf rfl rfl (by decide) (FW_1 S hW) rfl ?_
    refine q_icge rfl rfl (fun c99 => ?_) (fun c99 => absurd (by decide) c99)
    refine q_iload rfl rfl rfl ?_
    refine q_iret rfl rfl trivial ?_
    refine ⟨_, rfl, ?_⟩
    refine q_lload_n rfl rfl rfl ?_
    refine q_nS1 rfl rfl (Or.inl rfl) rfl rfl ⟨rfl, rfl⟩ rfl ?_
    change PQ _ _ _ mm_X0_last 0 [.long 0, pm_un] [] _ _ 0 0 _
    refine q_lload_n rfl rfl rfl ?_
    refine q_bipush rfl rfl ?_
    refine q_lushr rfl rfl (q_tnl (z := 0) rfl ?_)
    refine q_l2i rfl rfl (q_tn (z := 0) rfl ?_)
    refine q_iconst rfl rfl ?_
    refine q_iand rfl rfl (q_tn (z := 0) rfl ?_)
    refine q_iconst rfl rfl ?_
    refine q_isub rfl rfl (q_tn (z := (-1)) rfl ?_)
    refine q_iret rfl rfl trivial ?_
    refine ⟨_, rfl, ?_⟩
    refine q_nV2 rfl rfl (Or.inl rfl) rfl rfl rfl (by decide) rfl ⟨rfl, rfl⟩ rfl ?_
    change PQ _ _ _ mm_X6_chosenHands 0 [.ref 7, .int 0, .int (-1), pm_un, pm_un] [] _ _ 0 0 _
    refine q_aload_n rfl rfl rfl ?_
    refine q_getf rfl rfl (by decide) rfl rfl ?_
    refine q_iconst rfl rfl ?_
    refine q_icne rfl rfl (fun c100 => ?_) (fun c100 => absurd (by decide) c100)
    refine q_iload_n rfl rfl rfl ?_
    refine q_iflt rfl rfl (fun c101 => ?_) (fun c101 => absurd (by decide) c101)
    refine q_aload_n rfl rfl rfl ?_
    refine q_getf rfl rfl (by decide) rfl rfl ?_
    refine q_iconst rfl rfl ?_
    refine q_iceq rfl rfl (fun c102 => absurd c102 (by decide)) (fun c102 => ?_)
    refine q_iload_n rfl rfl rfl ?_
    refine q_iret rfl rfl trivial ?_
    refine ⟨_, rfl, ?_⟩
    refine q_ist5 rfl rfl rfl rfl ?_
    refine q_iconst rfl rfl ?_
    refine q_ist6 rfl rfl rfl rfl ?_
    refine q_iload rfl rfl rfl ?_
    refine q_iconst rfl rfl ?_
    refine q_icge rfl rfl (fun c103 => absurd c103 (by decide)) (fun c103 => ?_)
    refine q_iconst rfl rfl ?_
    refine q_ist7 rfl rfl rfl rfl ?_
    refine q_iload rfl rfl rfl ?_
    refine q_iload rfl rfl rfl ?_
    refine q_iushr rfl rfl (q_tn (z := 0) rfl ?_)
    refine q_iconst rfl rfl ?_
    refine q_iand rfl rfl (q_tn (z := 0) rfl ?_)
    refine q_ifeq rfl rfl (fun c104 => ?_) (fun c104 => absurd (by decide) c104)
    refine q_aload_n rfl rfl rfl ?_
    refine q_getf rfl rfl (by decide) rfl rfl ?_
    refine q_iload_n rfl rfl rfl ?_
    refine q_iconst rfl rfl ?_
    refine q_imul rfl rfl (q_tn (z := 0) rfl ?_)
    refine q_iload rfl rfl rfl ?_
    refine q_iadd rfl rfl (q_tn (z := 0) rfl ?_)
    refine q_iload rfl rfl rfl ?_
    refine q_iast rfl rfl (by decide) (FW_21 S hW) (by decide) ?_
    refine q_icc6 (z := 1) rfl rfl rfl rfl rfl ?_
    refine q_goto rfl ?_
    refine q_iload rfl rfl rfl ?_
    refine q_iconst rfl rfl ?_
    refine q_icge rfl rfl (fun c105 => absurd c105 (by decide)) (fun c105 => ?_)
    refine q_iconst rfl rfl ?_
    refine q_ist7 rfl rfl rfl rfl ?_
    refine q_iload rfl rfl rfl ?_
    refine q_iload rfl rfl rfl ?_
    refine q_iushr rfl rfl (q_tn (z := 0) rfl ?_)
    refine q_iconst rfl rfl ?_
    refine q_iand rfl rfl (q_tn (z := 0) rfl ?_)
    refine q_ifeq rfl rfl (fun c106 => ?_) (fun c106 => absurd (by decide) c106)
    refine q_aload_n rfl rfl rfl ?_
    refine q_getf rfl rfl (by decide) rfl rfl ?_
    refine q_iload_n rfl rfl rfl ?_
    refine q_iconst rfl rfl ?_
    refine q_imul rfl rfl (q_tn (z := 0) rfl ?_)
    refine q_iload rfl rfl rfl ?_
    refine q_iadd rfl rfl (q_tn (z := 1) rfl ?_)
    refine q_iload rfl rfl rfl ?_
    refine q_iast rfl rfl (by decide) rfl (by decide) ?_
    refine q_icc6 (z := 2) rfl rfl rfl rfl rfl ?_
    refine q_goto rfl ?_
    refine q_iload rfl rfl rfl ?_
    refine q_iconst rfl rfl ?_
    refine q_icge rfl rfl (fun c107 => absurd c107 (by decide)) (fun c107 => ?_)
    refine q_iconst rfl rfl ?_
    refine q_ist7 rfl rfl rfl rfl ?_
    refine q_iload rfl rfl rfl ?_
    refine q_iload rfl rfl rfl ?_
    refine q_iushr rfl rfl (q_tn (z := 0) rfl ?_)
    refine q_iconst rfl rfl ?_
    refine q_iand rfl rfl (q_tn (z := 0) rfl ?_)
    refine q_ifeq rfl rfl (fun c108 => ?_) (fun c108 => absurd (by decide) c108)
    refine q_aload_n rfl rfl rfl ?_
    refine q_getf rfl rfl (by decide) rfl rfl ?_
    refine q_iload_n rfl rfl rfl ?_
    refine q_iconst rfl rfl ?_
    refine q_imul rfl rfl (q_tn (z := 0) rfl ?_)
    refine q_iload rfl rfl rfl ?_
    refine q_iadd rfl rfl (q_tn (z := 2) rfl ?_)
    refine q_iload rfl rfl rfl ?_
    refine q_iast rfl rfl (by decide) rfl (by decide) ?_
    refine q_icc6 (z := 3) rfl rfl rfl rfl rfl ?_
    refine q_goto rfl ?_
    refine q_iload rfl rfl rfl ?_
    refine q_iconst rfl rfl ?_
    refine q_icge rfl rfl (fun c109 => ?_) (fun c109 => absurd (by decide) c109)
    refine q_aload_n rfl rfl rfl ?_
    refine q_getf rfl rfl (by decide) rfl rfl ?_
    refine q_iload_n rfl rfl rfl ?_
    refine q_iload rfl rfl rfl ?_
    refine q_ifeq rfl rfl (fun c110 => ?_) (fun c110 => absurd (by decide) c110)
    refine q_aload_n rfl rfl rfl ?_
    refine q_lload_n rfl rfl rfl ?_
    refine q_nV1 rfl rfl (Or.inl rfl) rfl rfl rfl (by decide) rfl ⟨rfl, rfl⟩ rfl ?_
    change PQ _ _ _ mm_X6_isEnd 0 [.ref 7, .long 0, pm_un, pm_un] [] _ _ 0 0 _
    refine q_iconst rfl rfl ?_
    refine q_ist3n rfl rfl rfl rfl ?_
    refine q_iload_n rfl rfl rfl ?_
    refine q_aload_n rfl rfl rfl ?_
    refine q_getf rfl rfl (by decide) rfl rfl ?_
    refine q_getf rfl rfl (by decide) (FW_1 S hW) rfl ?_
    refine q_icge rfl rfl (fun c111 => absurd c111 (by decide)) (fun c111 => ?_)
    refine q_aload_n rfl rfl rfl ?_
    refine q_getf rfl rfl (by decide) rfl rfl ?_
    refine q_iload_n rfl rfl rfl ?_
    refine q_lload_n rfl rfl rfl ?_
    refine q_iload_n rfl rfl rfl ?_
    refine q_nS2 rfl rfl (Or.inl rfl) rfl rfl ⟨rfl, rfl⟩ rfl ?_
    change PQ _ _ _ mm_X0_position 0 [.long 0, pm_un, .int 0] [] _ _ 0 0 _
    refine q_lload_n rfl rfl rfl ?_
    refine q_bipush rfl rfl ?_
    refine q_iload_n rfl rfl rfl ?_
    refine q_imul rfl rfl (q_tn (z := 0) rfl ?_)
    refine q_lushr rfl rfl (q_tnl (z := 0) rfl ?_)
    refine q_l2i rfl rfl (q_tn (z := 0) rfl ?_)
    refine q_bipush rfl rfl ?_
    refine q_iand rfl rfl (q_tn (z := 0) rfl ?_)
    refine q_iret rfl rfl trivial ?_
    refine ⟨_, rfl, ?_⟩
    refine q_nV2 rfl rfl (Or.inl rfl) rfl rfl rfl (by decide) (FW_1 S hW) ⟨rfl, rfl⟩ rfl ?_
    change PQ _ _ _ mm_X8_cellOf 0 [.ref 1, .int 0, .int 0, pm_un] [] _ _ 0 0 _
    refine q_iload_n rfl rfl rfl ?_
    refine q_iflt rfl rfl (fun c112 => absurd c112 (by decide)) (fun c112 => ?_)
    refine q_iload_n rfl rfl rfl ?_
    refine q_aload_n rfl rfl rfl ?_
    refine q_getf rfl rfl (by decide) (FW_1 S hW) rfl ?_
    refine q_icge rfl rfl (fun c113 => absurd c113 (by decide)) (fun c113 => ?_)
    refine q_iload_n rfl rfl rfl ?_
    refine q_iflt rfl rfl (fun c114 => absurd c114 (by decide)) (fun c114 => ?_)
    refine q_iload_n rfl rfl rfl ?_
    refine q_aload_n rfl rfl rfl ?_
    refine q_getf rfl rfl (by decide) (FW_1 S hW) rfl ?_
    refine q_iload_n rfl rfl rfl ?_
    refine q_iald rfl rfl (by decide) (FW_3 S hW) (by decide) (q_tn (z := 0) rfl ?_)
    refine q_icge rfl rfl (fun c115 => ?_) (fun c115 => absurd (by decide) c115)
    refine q_iconst rfl rfl ?_
    refine q_ist3n rfl rfl rfl rfl ?_
    refine q_iload_n rfl rfl rfl ?_
    refine q_ifeq rfl rfl (fun c116 => ?_) (fun c116 => absurd (by decide) c116)
    refine q_iconst rfl rfl ?_
    refine q_iret rfl rfl trivial ?_
    refine ⟨_, rfl, ?_⟩
    refine q_iflt rfl rfl (fun c117 => ?_) (fun c117 => absurd (by decide) c117)
    refine q_icc3 (z := 1) rfl rfl rfl rfl rfl ?_
    refine q_goto rfl ?_
    refine q_iload_n rfl rfl rfl ?_
    refine q_aload_n rfl rfl rfl ?_
    refine q_getf rfl rfl (by decide) rfl rfl ?_
    refine q_getf rfl rfl (by decide) (FW_1 S hW) rfl ?_
    refine q_icge rfl rfl (fun c118 => ?_) (fun c118 => absurd (by decide) c118)
    refine q_iconst rfl rfl ?_
    refine q_iret rfl rfl rfl ?_
    refine ⟨_, rfl, ?_⟩
    refine q_ifeq rfl rfl (fun c119 => absurd c119 (by decide)) (fun c119 => ?_)
    refine q_iconst rfl rfl ?_
    refine q_goto rfl ?_
    refine q_iast rfl rfl (by decide) (FW_20 S hW) (by decide) ?_
    refine q_aload_n rfl rfl rfl ?_
    refine q_dupr rfl rfl ?_
    refine q_getf rfl rfl (by decide) rfl rfl ?_
    refine q_aload_n rfl rfl rfl ?_
    refine q_getf rfl rfl (by decide) rfl rfl ?_
    refine q_iload_n rfl rfl rfl ?_
    refine q_iald rfl rfl (by decide) rfl (by decide) (q_tn (z := 1) rfl ?_)
    refine q_iconst rfl rfl ?_
    refine q_iceq rfl rfl (fun c120 => absurd c120 (by decide)) (fun c120 => ?_)
    refine q_aload_n rfl rfl rfl ?_
    refine q_lload_n rfl rfl rfl ?_
    refine q_nV1 rfl rfl (Or.inl rfl) rfl rfl rfl (by decide) rfl ⟨rfl, rfl⟩ rfl ?_
    change PQ _ _ _ mm_X6_someFailed 0 [.ref 7, .long 0, pm_un, pm_un] [] _ _ 0 0 _
    refine q_iconst rfl rfl ?_
    refine q_ist3n rfl rfl rfl rfl ?_
    refine q_iload_n rfl rfl rfl ?_
    refine q_aload_n rfl rfl rfl ?_
    refine q_getf rfl rfl (by decide) rfl rfl ?_
    refine q_getf rfl rfl (by decide) (FW_1 S hW) rfl ?_
    refine q_icge rfl rfl (fun c121 => absurd c121 (by decide)) (fun c121 => ?_)
    refine q_lload_n rfl rfl rfl ?_
    refine q_iload_n rfl rfl rfl ?_
    refine q_nS2 rfl rfl (Or.inl rfl) rfl rfl ⟨rfl, rfl⟩ rfl ?_
    change PQ _ _ _ mm_X0_position 0 [.long 0, pm_un, .int 0] [] _ _ 0 0 _
    refine q_lload_n rfl rfl rfl ?_
    refine q_bipush rfl rfl ?_
    refine q_iload_n rfl rfl rfl ?_
    refine q_imul rfl rfl (q_tn (z := 0) rfl ?_)
    refine q_lushr rfl rfl (q_tnl (z := 0) rfl ?_)
    refine q_l2i rfl rfl (q_tn (z := 0) rfl ?_)
    refine q_bipush rfl rfl ?_
    refine q_iand rfl rfl (q_tn (z := 0) rfl ?_)
    refine q_iret rfl rfl trivial ?_
    refine ⟨_, rfl, ?_⟩
    refine q_bipush rfl rfl ?_
    refine q_icne rfl rfl (fun c122 => absurd c122 (by decide)) (fun c122 => ?_)
    refine q_icc3 (z := 1) rfl rfl rfl rfl rfl ?_
    refine q_goto rfl ?_
    refine q_iload_n rfl rfl rfl ?_
    refine q_aload_n rfl rfl rfl ?_
    refine q_getf rfl rfl (by decide) rfl rfl ?_
    refine q_getf rfl rfl (by decide) (FW_1 S hW) rfl ?_
    refine q_icge rfl rfl (fun c123 => ?_) (fun c123 => absurd (by decide) c123)
    refine q_iconst rfl rfl ?_
    refine q_iret rfl rfl rfl ?_
    refine ⟨_, rfl, ?_⟩
    refine q_ifeq rfl rfl (fun c124 => ?_) (fun c124 => absurd (by decide) c124)
    refine q_iconst rfl rfl ?_
    refine q_ior rfl rfl (q_tn (z := 0) rfl ?_)
    refine q_putf rfl rfl (by decide) rfl (by decide) rfl rfl ?_
    refine q_aload_n rfl rfl rfl ?_
    refine q_getf rfl rfl (by decide) rfl rfl ?_
    refine q_iload_n rfl rfl rfl ?_
    refine q_iald rfl rfl (by decide) rfl (by decide) (q_tn (z := 1) rfl ?_)
    refine q_iconst rfl rfl ?_
    refine q_icne rfl rfl (fun c125 => ?_) (fun c125 => absurd (by decide) c125)
    refine q_aload_n rfl rfl rfl ?_
    refine q_lload_n rfl rfl rfl ?_
    refine q_nV1v rfl rfl (Or.inl rfl) rfl rfl rfl (by decide) rfl ⟨rfl, rfl⟩ rfl ?_
    change PQ _ _ _ mm_X7_noteEnd 0 [.ref 16, .long 0, pm_un, pm_un] [] _ _ 0 0 _
    refine q_iconst rfl rfl ?_
    refine q_ist3n rfl rfl rfl rfl ?_
    refine q_iload_n rfl rfl rfl ?_
    refine q_iconst rfl rfl ?_
    refine q_icge rfl rfl (fun c126 => absurd c126 (by decide)) (fun c126 => ?_)
    refine q_aload_n rfl rfl rfl ?_
    refine q_dupr rfl rfl ?_
    refine q_getf rfl rfl (by decide) rfl rfl ?_
    refine q_lconst rfl rfl ?_
    refine q_bipush rfl rfl ?_
    refine q_iload_n rfl rfl rfl ?_
    refine q_imul rfl rfl (q_tn (z := 0) rfl ?_)
    refine q_lload_n rfl rfl rfl ?_
    refine q_iload_n rfl rfl rfl ?_
    refine q_nS2 rfl rfl (Or.inl rfl) rfl rfl ⟨rfl, rfl⟩ rfl ?_
    change PQ _ _ _ mm_X0_place 0 [.long 0, pm_un, .int 0] [] _ _ 0 0 _
    refine q_lload_n rfl rfl rfl ?_
    refine q_bipush rfl rfl ?_
    refine q_iconst rfl rfl ?_
    refine q_iload_n rfl rfl rfl ?_
    refine q_imul rfl rfl (q_tn (z := 0) rfl ?_)
    refine q_iadd rfl rfl (q_tn (z := 36) rfl ?_)
    refine q_lushr rfl rfl (q_tnl (z := 0) rfl ?_)
    refine q_l2i rfl rfl (q_tn (z := 0) rfl ?_)
    refine q_bipush rfl rfl ?_
    refine q_iand rfl rfl (q_tn (z := 0) rfl ?_)
    refine q_iret rfl rfl trivial ?_
    refine ⟨_, rfl, ?_⟩
    refine q_iadd rfl rfl (q_tn (z := 0) rfl ?_)
    refine q_lshl rfl rfl (q_tnl (z := 1) rfl ?_)
    refine q_lor rfl rfl (q_tnl (z := 1) rfl ?_)
    refine q_putf rfl rfl (by decide) rfl (by decide) rfl trivial ?_
    refine q_icc3 (z := 1) rfl rfl rfl rfl rfl ?_
    refine q_goto rfl ?_
    refine q_iload_n rfl rfl rfl ?_
    refine q_iconst rfl rfl ?_
    refine q_icge rfl rfl (fun c127 => absurd c127 (by decide)) (fun c127 => ?_)
    refine q_aload_n rfl rfl rfl ?_
    refine q_dupr rfl rfl ?_
    refine q_getf rfl rfl (by decide) rfl rfl ?_
    refine q_lconst rfl rfl ?_
    refine q_bipush rfl rfl ?_
    refine q_iload_n rfl rfl rfl ?_
    refine q_imul rfl rfl (q_tn (z := 10) rfl ?_)
    refine q_lload_n rfl rfl rfl ?_
    refine q_iload_n rfl rfl rfl ?_
    refine q_nS2 rfl rfl (Or.inl rfl) rfl rfl ⟨rfl, rfl⟩ rfl ?_
    change PQ _ _ _ mm_X0_place 0 [.long 0, pm_un, .int 1] [] _ _ 0 0 _
    refine q_lload_n rfl rfl rfl ?_
    refine q_bipush rfl rfl ?_
    refine q_iconst rfl rfl ?_
    refine q_iload_n rfl rfl rfl ?_
    refine q_imul rfl rfl (q_tn (z := 4) rfl ?_)
    refine q_iadd rfl rfl (q_tn (z := 40) rfl ?_)
    refine q_lushr rfl rfl (q_tnl (z := 0) rfl ?_)
    refine q_l2i rfl rfl (q_tn (z := 0) rfl ?_)
    refine q_bipush rfl rfl ?_
    refine q_iand rfl rfl (q_tn (z := 0) rfl ?_)
    refine q_iret rfl rfl trivial ?_
    refine ⟨_, rfl, ?_⟩
    refine q_iadd rfl rfl (q_tn (z := 10) rfl ?_)
    refine q_lshl rfl rfl (q_tnl (z := 1024) rfl ?_)
    refine q_lor rfl rfl (q_tnl (z := 1025) rfl ?_)
    refine q_putf rfl rfl (by decide) rfl (by decide) rfl trivial ?_
    refine q_icc3 (z := 2) rfl rfl rfl rfl rfl ?_
    refine q_goto rfl ?_
    refine q_iload_n rfl rfl rfl ?_
    refine q_iconst rfl rfl ?_
    refine q_icge rfl rfl (fun c128 => absurd c128 (by decide)) (fun c128 => ?_)
    refine q_aload_n rfl rfl rfl ?_
    refine q_dupr rfl rfl ?_
    refine q_getf rfl rfl (by decide) rfl rfl ?_
    refine q_lconst rfl rfl ?_
    refine q_bipush rfl rfl ?_
    refine q_iload_n rfl rfl rfl ?_
    refine q_imul rfl rfl (q_tn (z := 20) rfl ?_)
    refine q_lload_n rfl rfl rfl ?_
    refine q_iload_n rfl rfl rfl ?_
    refine q_nS2 rfl rfl (Or.inl rfl) rfl rfl ⟨rfl, rfl⟩ rfl ?_
    change PQ _ _ _ mm_X0_place 0 [.long 0, pm_un, .int 2] [] _ _ 0 0 _
    refine q_lload_n rfl rfl rfl ?_
    refine q_bipush rfl rfl ?_
    refine q_iconst rfl rfl ?_
    refine q_iload_n rfl rfl rfl ?_
    refine q_imul rfl rfl (q_tn (z := 8) rfl ?_)
    refine q_iadd rfl rfl (q_tn (z := 44) rfl ?_)
    refine q_lushr rfl rfl (q_tnl (z := 0) rfl ?_)
    refine q_l2i rfl rfl (q_tn (z := 0) rfl ?_)
    refine q_bipush rfl rfl ?_
    refine q_iand rfl rfl (q_tn (z := 0) rfl ?_)
    refine q_iret rfl rfl trivial ?_
    refine ⟨_, rfl, ?_⟩
    refine q_iadd rfl rfl (q_tn (z := 20) rfl ?_)
    refine q_lshl rfl rfl (q_tnl (z := 1048576) rfl ?_)
    refine q_lor rfl rfl (q_tnl (z := 1049601) rfl ?_)
    refine q_putf rfl rfl (by decide) rfl (by decide) rfl trivial ?_
    refine q_icc3 (z := 3) rfl rfl rfl rfl rfl ?_
    refine q_goto rfl ?_
    refine q_iload_n rfl rfl rfl ?_
    refine q_iconst rfl rfl ?_
    refine q_icge rfl rfl (fun c129 => absurd c129 (by decide)) (fun c129 => ?_)
    refine q_aload_n rfl rfl rfl ?_
    refine q_dupr rfl rfl ?_
    refine q_getf rfl rfl (by decide) rfl rfl ?_
    refine q_lconst rfl rfl ?_
    refine q_bipush rfl rfl ?_
    refine q_iload_n rfl rfl rfl ?_
    refine q_imul rfl rfl (q_tn (z := 30) rfl ?_)
    refine q_lload_n rfl rfl rfl ?_
    refine q_iload_n rfl rfl rfl ?_
    refine q_nS2 rfl rfl (Or.inl rfl) rfl rfl ⟨rfl, rfl⟩ rfl ?_
    change PQ _ _ _ mm_X0_place 0 [.long 0, pm_un, .int 3] [] _ _ 0 0 _
    refine q_lload_n rfl rfl rfl ?_
    refine q_bipush rfl rfl ?_
    refine q_iconst rfl rfl ?_
    refine q_iload_n rfl rfl rfl ?_
    refine q_imul rfl rfl (q_tn (z := 12) rfl ?_)
    refine q_iadd rfl rfl (q_tn (z := 48) rfl ?_)
    refine q_lushr rfl rfl (q_tnl (z := 0) rfl ?_)
    refine q_l2i rfl rfl (q_tn (z := 0) rfl ?_)
    refine q_bipush rfl rfl ?_
    refine q_iand rfl rfl (q_tn (z := 0) rfl ?_)
    refine q_iret rfl rfl trivial ?_
    refine ⟨_, rfl, ?_⟩
    refine q_iadd rfl rfl (q_tn (z := 30) rfl ?_)
    refine q_lshl rfl rfl (q_tnl (z := 1073741824) rfl ?_)
    refine q_lor rfl rfl (q_tnl (z := 1074791425) rfl ?_)
    refine q_putf rfl rfl (by decide) rfl (by decide) rfl trivial ?_
    refine q_icc3 (z := 4) rfl rfl rfl rfl rfl ?_
    refine q_goto rfl ?_
    refine q_iload_n rfl rfl rfl ?_
    refine q_iconst rfl rfl ?_
    refine q_icge rfl rfl (fun c130 => ?_) (fun c130 => absurd (by decide) c130)
    refine q_ret rfl rfl ?_
    refine ⟨rfl, ?_⟩
    refine q_ret rfl rfl ?_
    refine ⟨rfl, ?_⟩
    refine q_aload_n rfl rfl rfl ?_
    refine q_getf rfl rfl (by decide) rfl rfl ?_
    refine q_ifne rfl rfl (fun c131 => ?_) (fun c131 => absurd (by decide) c131)
    refine q_iload_n rfl rfl rfl ?_
    refine q_ifeq rfl rfl (fun c132 => ?_) (fun c132 => absurd (by decide) c132)
    refine q_icc3 (z := 1) rfl rfl rfl rfl rfl ?_
    refine q_goto rfl ?_
    refine q_iload_n rfl rfl rfl ?_
    refine q_sipush rfl rfl ?_
    refine q_icge rfl rfl (fun c133 => absurd c133 (by decide)) (fun c133 => ?_)
    refine q_iload_n rfl rfl rfl ?_
    refine q_aload_n rfl rfl rfl ?_
    refine q_getf rfl rfl (by decide) rfl rfl ?_
    refine q_icge rfl rfl (fun c134 => ?_) (fun c134 => absurd (by decide) c134)
    refine q_ret rfl rfl ?_
    refine ⟨rfl, ?_⟩
    refine q_aload_n rfl rfl rfl ?_
    refine q_getf rfl rfl (by decide) (FW_0 S hW) rfl ?_
    refine q_iconst rfl rfl ?_
    refine q_putf rfl rfl (by decide) rfl (by decide) rfl trivial ?_
    refine q_aload_n rfl rfl rfl ?_
    refine q_getf rfl rfl (by decide) (FW_0 S hW) rfl ?_
    refine q_iload_n rfl rfl rfl ?_
    refine q_aload_n rfl rfl rfl ?_
    refine q_getf rfl rfl (by decide) rfl rfl ?_
    refine q_ifeq rfl rfl (fun c135 => ?_) (fun c135 => absurd (by decide) c135)
    refine q_aload_n rfl rfl rfl ?_
    refine q_getf rfl rfl (by decide) rfl rfl ?_
    refine q_iast rfl rfl (by decide) rfl (by decide) ?_
    refine q_aload_n rfl rfl rfl ?_
    refine q_getf rfl rfl (by decide) (FW_0 S hW) rfl ?_
    refine q_iload_n rfl rfl rfl ?_
    refine q_aload_n rfl rfl rfl ?_
    refine q_getf rfl rfl (by decide) rfl rfl ?_
    refine q_last rfl rfl (by decide) rfl (by decide) ?_
    refine q_aload_n rfl rfl rfl ?_
    refine q_getf rfl rfl (by decide) (FW_0 S hW) rfl ?_
    refine q_iload_n rfl rfl rfl ?_
    refine q_iald rfl rfl (by decide) rfl (by decide) (q_tn (z := 1) rfl ?_)
    refine q_iret rfl rfl trivial ?_
    refine ⟨_, rfl, ?_⟩
    refine q_bipush rfl rfl ?_
    refine q_icne rfl rfl (fun c136 => absurd c136 (by decide)) (fun c136 => ?_)
    refine q_iconst rfl rfl ?_
    refine q_ior rfl rfl (q_tn (z := 0) rfl ?_)
    refine q_ist1n rfl rfl rfl rfl ?_
    refine q_icc2 (z := 2) rfl rfl rfl rfl rfl ?_
    refine q_goto rfl ?_
    refine q_iload_n rfl rfl rfl ?_
    refine q_iconst rfl rfl ?_
    refine q_icge rfl rfl (fun c137 => absurd c137 (by decide)) (fun c137 => ?_)
    refine q_iload_n rfl rfl rfl ?_
    refine q_aload_n rfl rfl rfl ?_
    refine q_iload_n rfl rfl rfl ?_
    refine q_nV1 rfl rfl (Or.inl rfl) rfl rfl rfl (by decide) (FW_0 S hW) ⟨rfl, rfl⟩ rfl ?_
    change PQ _ _ _ mm_X11_sizeOf 0 [.ref 0, .int 2, pm_un] [] _ _ 0 0 _
    refine q_aload_n rfl rfl rfl ?_
    refine q_getf rfl rfl (by decide) (FW_0 S hW) rfl ?_
    refine q_iload_n rfl rfl rfl ?_
    refine q_iald rfl rfl (by decide) rfl (by decide) (q_tn (z := 0) rfl ?_)
    refine q_ifne rfl rfl (fun c138 => ?_) (fun c138 => absurd (by decide) c138)
    refine q_iload_n rfl rfl rfl ?_
    refine q_ifne rfl rfl (fun c139 => absurd c139 (by decide)) (fun c139 => ?_)
    refine q_aload_n rfl rfl rfl ?_
    refine q_getf rfl rfl (by decide) (FW_0 S hW) rfl ?_
    refine q_ast2n rfl rfl rfl rfl ?_
    refine q_aload_n rfl rfl rfl ?_
    refine q_getf rfl rfl (by decide) (FW_0 S hW) rfl ?_
    refine q_iload_n rfl rfl rfl ?_
    refine q_putf rfl rfl (by decide) rfl (by decide) rfl trivial ?_
    refine q_aload_n rfl rfl rfl ?_
    refine q_aload_n rfl rfl rfl ?_
    refine q_getf rfl rfl (by decide) (FW_0 S hW) rfl ?_
    refine q_iconst rfl rfl ?_
    refine q_nV2v rfl rfl (Or.inl rfl) rfl rfl rfl (by decide) rfl ⟨rfl, rfl⟩ rfl ?_
    change PQ _ _ _ mm_X7_explore 0 [.ref 16, .ref 7, .int 0, pm_un] [] _ _ 0 0 _
    refine q_aload_n rfl rfl rfl ?_
    refine q_nV0v rfl rfl (Or.inl rfl) rfl rfl rfl (by decide) rfl ⟨rfl, rfl⟩ rfl ?_
    change PQ _ _ _ mm_X7_clear 0 [.ref 16, pm_un] [] _ _ 0 0 _
    refine q_iconst rfl rfl ?_
    refine q_ist1n rfl rfl rfl rfl ?_
    refine q_iload_n rfl rfl rfl ?_
    refine q_aload_n rfl rfl rfl ?_
    refine q_getf rfl rfl (by decide) rfl rfl ?_
    refine q_icge rfl rfl (fun c140 => absurd c140 (by decide)) (fun c140 => ?_)
    refine q_aload_n rfl rfl rfl ?_
    refine q_getf rfl rfl (by decide) rfl rfl ?_
    refine q_aload_n rfl rfl rfl ?_
    refine q_getf rfl rfl (by decide) rfl rfl ?_
    refine q_iload_n rfl rfl rfl ?_
    refine q_iald rfl rfl (by decide) rfl (by decide) (q_tn (z := 0) rfl ?_)
    refine q_iconst rfl rfl ?_
    refine q_iast rfl rfl (by decide) rfl (by decide) ?_
    refine q_icc1 (z := 1) rfl rfl rfl rfl rfl ?_
    refine q_goto rfl ?_
    refine q_iload_n rfl rfl rfl ?_
    refine q_aload_n rfl rfl rfl ?_
    refine q_getf rfl rfl (by decide) rfl rfl ?_
    refine q_icge rfl rfl (fun c141 => ?_) (fun c141 => absurd (by decide) c141)
    refine q_aload_n rfl rfl rfl ?_
    refine q_iconst rfl rfl ?_
    refine q_putf rfl rfl (by decide) rfl (by decide) rfl trivial ?_
    refine q_aload_n rfl rfl rfl ?_
    refine q_iconst rfl rfl ?_
    refine q_putf rfl rfl (by decide) rfl (by decide) rfl rfl ?_
    refine q_aload_n rfl rfl rfl ?_
    refine q_iconst rfl rfl ?_
    refine q_putf rfl rfl (by decide) rfl (by decide) rfl rfl ?_
    refine q_aload_n rfl rfl rfl ?_
    refine q_lconst rfl rfl ?_
    refine q_putf rfl rfl (by decide) rfl (by decide) rfl trivial ?_
    refine q_ret rfl rfl ?_
    refine ⟨rfl, ?_⟩
    refine q_aload_n rfl rfl rfl ?_
    refine q_aload_n rfl rfl rfl ?_
    refine q_nV0 rfl rfl (Or.inl rfl) rfl rfl rfl (by decide) rfl ⟨rfl, rfl⟩ rfl ?_
    change PQ _ _ _ mm_X6_first 0 [.ref 7, pm_un, pm_un, pm_un] [] _ _ 0 0 _
    refine q_lconst rfl rfl ?_
    refine q_lst1n rfl rfl rfl rfl ?_
    refine q_iconst rfl rfl ?_
    refine q_ist3n rfl rfl rfl rfl ?_
    refine q_iload_n rfl rfl rfl ?_
    refine q_iconst rfl rfl ?_
    refine q_icge rfl rfl (fun c142 => absurd c142 (by decide)) (fun c142 => ?_)
    refine q_lload_n rfl rfl rfl ?_
    refine q_iload_n rfl rfl rfl ?_
    refine q_aload_n rfl rfl rfl ?_
    refine q_getf rfl rfl (by decide) rfl rfl ?_
    refine q_getf rfl rfl (by decide) (FW_1 S hW) rfl ?_
    refine q_iload_n rfl rfl rfl ?_
    refine q_iald rfl rfl (by decide) (FW_2 S hW) (by decide) (q_tn (z := 0) rfl ?_)
    refine q_nS3 rfl rfl (Or.inl rfl) rfl rfl ⟨rfl, rfl⟩ rfl ?_
    change PQ _ _ _ mm_X0_withPlace 0 [.long 0, pm_un, .int 0, .int 0, pm_un] [] _ _ 0 0 _
    refine q_bipush rfl rfl ?_
    refine q_iconst rfl rfl ?_
    refine q_iload_n rfl rfl rfl ?_
    refine q_imul rfl rfl (q_tn (z := 0) rfl ?_)
    refine q_iadd rfl rfl (q_tn (z := 36) rfl ?_)
    refine q_ist4 rfl rfl rfl rfl ?_
    refine q_lload_n rfl rfl rfl ?_
    refine q_ldc2 rfl rfl ?_
    refine q_iload rfl rfl rfl ?_
    refine q_lshl rfl rfl (q_tnl (z := 1030792151040) rfl ?_)
    refine q_ldc2 rfl rfl ?_
    refine q_lxor rfl rfl (q_tnl (z := (-1030792151041)) rfl ?_)
    refine q_land rfl rfl (q_tnl (z := 0) rfl ?_)
    refine q_iload_n rfl rfl rfl ?_
    refine q_i2l rfl rfl (q_tnl (z := 0) rfl ?_)
    refine q_iload rfl rfl rfl ?_
    refine q_lshl rfl rfl (q_tnl (z := 0) rfl ?_)
    refine q_lor rfl rfl (q_tnl (z := 0) rfl ?_)
    refine q_lret rfl rfl trivial ?_
    refine ⟨_, rfl, ?_⟩
    refine q_lst1n rfl rfl rfl rfl ?_
    refine q_icc3 (z := 1) rfl rfl rfl rfl rfl ?_
    refine q_goto rfl ?_
    refine q_iload_n rfl rfl rfl ?_
    refine q_iconst rfl rfl ?_
    refine q_icge rfl rfl (fun c143 => absurd c143 (by decide)) (fun c143 => ?_)
    refine q_lload_n rfl rfl rfl ?_
    refine q_iload_n rfl rfl rfl ?_
    refine q_aload_n rfl rfl rfl ?_
    refine q_getf rfl rfl (by decide) rfl rfl ?_
    refine q_getf rfl rfl (by decide) (FW_1 S hW) rfl ?_
    refine q_iload_n rfl rfl rfl ?_
    refine q_iald rfl rfl (by decide) (FW_2 S hW) (by decide) (q_tn (z := 0) rfl ?_)
    refine q_nS3 rfl rfl (Or.inl rfl) rfl rfl ⟨rfl, rfl⟩ rfl ?_
    change PQ _ _ _ mm_X0_withPlace 0 [.long 0, pm_un, .int 1, .int 0, pm_un] [] _ _ 0 0 _
    refine q_bipush rfl rfl ?_
    refine q_iconst rfl rfl ?_
    refine q_iload_n rfl rfl rfl ?_
    refine q_imul rfl rfl (q_tn (z := 4) rfl ?_)
    refine q_iadd rfl rfl (q_tn (z := 40) rfl ?_)
    refine q_ist4 rfl rfl rfl rfl ?_
    refine q_lload_n rfl rfl rfl ?_
    refine q_ldc2 rfl rfl ?_
    refine q_iload rfl rfl rfl ?_
    refine q_lshl rfl rfl (q_tnl (z := 16492674416640) rfl ?_)
    refine q_ldc2 rfl rfl ?_
    refine q_lxor rfl rfl (q_tnl (z := (-16492674416641)) rfl ?_)
    refine q_land rfl rfl (q_tnl (z := 0) rfl ?_)
    refine q_iload_n rfl rfl rfl ?_
    refine q_i2l rfl rfl (q_tnl (z := 0) rfl ?_)
    refine q_iload rfl rfl rfl ?_
    refine q_lshl rfl rfl (q_tnl (z := 0) rfl ?_)
    refine q_lor rfl rfl (q_tnl (z := 0) rfl ?_)
    refine q_lret rfl rfl trivial ?_
    refine ⟨_, rfl, ?_⟩
    refine q_lst1n rfl rfl rfl rfl ?_
    refine q_icc3 (z := 2) rfl rfl rfl rfl rfl ?_
    refine q_goto rfl ?_
    refine q_iload_n rfl rfl rfl ?_
    refine q_iconst rfl rfl ?_
    refine q_icge rfl rfl (fun c144 => absurd c144 (by decide)) (fun c144 => ?_)
    refine q_lload_n rfl rfl rfl ?_
    refine q_iload_n rfl rfl rfl ?_
    refine q_aload_n rfl rfl rfl ?_
    refine q_getf rfl rfl (by decide) rfl rfl ?_
    refine q_getf rfl rfl (by decide) (FW_1 S hW) rfl ?_
    refine q_iload_n rfl rfl rfl ?_
    refine q_iald rfl rfl (by decide) (FW_2 S hW) (by decide) (q_tn (z := 0) rfl ?_)
    refine q_nS3 rfl rfl (Or.inl rfl) rfl rfl ⟨rfl, rfl⟩ rfl ?_
    change PQ _ _ _ mm_X0_withPlace 0 [.long 0, pm_un, .int 2, .int 0, pm_un] [] _ _ 0 0 _
    refine q_bipush rfl rfl ?_
    refine q_iconst rfl rfl ?_
    refine q_iload_n rfl rfl rfl ?_
    refine q_imul rfl rfl (q_tn (z := 8) rfl ?_)
    refine q_iadd rfl rfl (q_tn (z := 44) rfl ?_)
    refine q_ist4 rfl rfl rfl rfl ?_
    refine q_lload_n rfl rfl rfl ?_
    refine q_ldc2 rfl rfl ?_
    refine q_iload rfl rfl rfl ?_
    refine q_lshl rfl rfl (q_tnl (z := 263882790666240) rfl ?_)
    refine q_ldc2 rfl rfl ?_
    refine q_lxor rfl rfl (q_tnl (z := (-263882790666241)) rfl ?_)
    refine q_land rfl rfl (q_tnl (z := 0) rfl ?_)
    refine q_iload_n rfl rfl rfl ?_
    refine q_i2l rfl rfl (q_tnl (z := 0) rfl ?_)
    refine q_iload rfl rfl rfl ?_
    refine q_lshl rfl rfl (q_tnl (z := 0) rfl ?_)
    refine q_lor rfl rfl (q_tnl (z := 0) rfl ?_)
    refine q_lret rfl rfl trivial ?_
    refine ⟨_, rfl, ?_⟩
    refine q_lst1n rfl rfl rfl rfl ?_
    refine q_icc3 (z := 3) rfl rfl rfl rfl rfl ?_
    refine q_goto rfl ?_
    refine q_iload_n rfl rfl rfl ?_
    refine q_iconst rfl rfl ?_
    refine q_icge rfl rfl (fun c145 => absurd c145 (by decide)) (fun c145 => ?_)
    refine q_lload_n rfl rfl rfl ?_
    refine q_iload_n rfl rfl rfl ?_
    refine q_aload_n rfl rfl rfl ?_
    refine q_getf rfl rfl (by decide) rfl rfl ?_
    refine q_getf rfl rfl (by decide) (FW_1 S hW) rfl ?_
    refine q_iload_n rfl rfl rfl ?_
    refine q_iald rfl rfl (by decide) (FW_2 S hW) (by decide) (q_tn (z := 0) rfl ?_)
    refine q_nS3 rfl rfl (Or.inl rfl) rfl rfl ⟨rfl, rfl⟩ rfl ?_
    change PQ _ _ _ mm_X0_withPlace 0 [.long 0, pm_un, .int 3, .int 0, pm_un] [] _ _ 0 0 _
    refine q_bipush rfl rfl ?_
    refine q_iconst rfl rfl ?_
    refine q_iload_n rfl rfl rfl ?_
    refine q_imul rfl rfl (q_tn (z := 12) rfl ?_)
    refine q_iadd rfl rfl (q_tn (z := 48) rfl ?_)
    refine q_ist4 rfl rfl rfl rfl ?_
    refine q_lload_n rfl rfl rfl ?_
    refine q_ldc2 rfl rfl ?_
    refine q_iload rfl rfl rfl ?_
    refine q_lshl rfl rfl (q_tnl (z := 4222124650659840) rfl ?_)
    refine q_ldc2 rfl rfl ?_
    refine q_lxor rfl rfl (q_tnl (z := (-4222124650659841)) rfl ?_)
    refine q_land rfl rfl (q_tnl (z := 0) rfl ?_)
    refine q_iload_n rfl rfl rfl ?_
    refine q_i2l rfl rfl (q_tnl (z := 0) rfl ?_)
    refine q_iload rfl rfl rfl ?_
    refine q_lshl rfl rfl (q_tnl (z := 0) rfl ?_)
    refine q_lor rfl rfl (q_tnl (z := 0) rfl ?_)
    refine q_lret rfl rfl trivial ?_
    refine ⟨_, rfl, ?_⟩
    refine q_lst1n rfl rfl rfl rfl ?_
    refine q_icc3 (z := 4) rfl rfl rfl rfl rfl ?_
    refine q_goto rfl ?_
    refine q_iload_n rfl rfl rfl ?_
    refine q_iconst rfl rfl ?_
    refine q_icge rfl rfl (fun c146 => ?_) (fun c146 => absurd (by decide) c146)
    refine q_lload_n rfl rfl rfl ?_
    refine q_lret rfl rfl trivial ?_
    refine ⟨_, rfl, ?_⟩
    refine q_iconst rfl rfl ?_
    refine q_iconst rfl rfl ?_
    refine q_nV3 rfl rfl (Or.inl rfl) rfl rfl rfl (by decide) rfl ⟨rfl, rfl⟩ rfl ?_
    change PQ _ _ _ mm_X7_numberOf 0 [.ref 16, .long 0, pm_un, .int (-1), .int (-1), pm_un, pm_un, pm_un] [] _ _ 0 0 _
    refine q_lload_n rfl rfl rfl ?_
    refine q_ldc2 rfl rfl ?_
    refine q_lmul rfl rfl (q_tnl (z := 0) rfl ?_)
    refine q_bipush rfl rfl ?_
    refine q_lushr rfl rfl (q_tnl (z := 0) rfl ?_)
    refine q_l2i rfl rfl (q_tn (z := 0) rfl ?_)
    refine q_sipush rfl rfl ?_
    refine q_iand rfl rfl (q_tn (z := 0) rfl ?_)
    refine q_ist5 rfl rfl rfl rfl ?_
    refine q_iconst rfl rfl ?_
    refine q_ist6 rfl rfl rfl rfl ?_
    refine q_iload rfl rfl rfl ?_
    refine q_sipush rfl rfl ?_
    refine q_icge rfl rfl (fun c147 => absurd c147 (by decide)) (fun c147 => ?_)
    refine q_aload_n rfl rfl rfl ?_
    refine q_getf rfl rfl (by decide) rfl rfl ?_
    refine q_iload rfl rfl rfl ?_
    refine q_iald rfl rfl (by decide) rfl (by decide) (q_tn (z := 0) rfl ?_)
    refine q_iconst rfl rfl ?_
    refine q_isub rfl rfl (q_tn (z := (-1)) rfl ?_)
    refine q_ist7 rfl rfl rfl rfl ?_
    refine q_iload rfl rfl rfl ?_
    refine q_ifge rfl rfl (fun c148 => absurd c148 (by decide)) (fun c148 => ?_)
    refine q_aload_n rfl rfl rfl ?_
    refine q_lload_n rfl rfl rfl ?_
    refine q_iload rfl rfl rfl ?_
    refine q_iload_n rfl rfl rfl ?_
    refine q_iload rfl rfl rfl ?_
    refine q_nV4 rfl rfl (Or.inl rfl) rfl rfl rfl (by decide) rfl ⟨rfl, rfl⟩ rfl ?_
    change PQ _ _ _ mm_X7_newNumber 0 [.ref 16, .long 0, pm_un, .int 0, .int (-1), .int (-1), pm_un] [] _ _ 0 0 _
    refine q_aload_n rfl rfl rfl ?_
    refine q_getf rfl rfl (by decide) rfl rfl ?_
    refine q_sipush rfl rfl ?_
    refine q_iclt rfl rfl (fun c149 => ?_) (fun c149 => absurd (by decide) c149)
    refine q_aload_n rfl rfl rfl ?_
    refine q_dupr rfl rfl ?_
    refine q_getf rfl rfl (by decide) rfl rfl ?_
    refine q_dupx1 rfl rfl ?_
    refine q_iconst rfl rfl ?_
    refine q_iadd rfl rfl (q_tn (z := 1) rfl ?_)
    refine q_putf rfl rfl (by decide) rfl (by decide) rfl trivial ?_
    refine q_ist6 rfl rfl rfl rfl ?_
    refine q_aload_n rfl rfl rfl ?_
    refine q_getf rfl rfl (by decide) rfl rfl ?_
    refine q_iload rfl rfl rfl ?_
    refine q_lload_n rfl rfl rfl ?_
    refine q_last rfl rfl (by decide) rfl (by decide) ?_
    refine q_aload_n rfl rfl rfl ?_
    refine q_getf rfl rfl (by decide) rfl rfl ?_
    refine q_iload rfl rfl rfl ?_
    refine q_iload rfl rfl rfl ?_
    refine q_iast rfl rfl (by decide) rfl (by decide) ?_
    refine q_aload_n rfl rfl rfl ?_
    refine q_getf rfl rfl (by decide) rfl rfl ?_
    refine q_iload rfl rfl rfl ?_
    refine q_iload rfl rfl rfl ?_
    refine q_iast rfl rfl (by decide) rfl (by decide) ?_
    refine q_aload_n rfl rfl rfl ?_
    refine q_getf rfl rfl (by decide) rfl rfl ?_
    refine q_iload rfl rfl rfl ?_
    refine q_iload_n rfl rfl rfl ?_
    refine q_iast rfl rfl (by decide) rfl (by decide) ?_
    refine q_aload_n rfl rfl rfl ?_
    refine q_getf rfl rfl (by decide) rfl rfl ?_
    refine q_iload_n rfl rfl rfl ?_
    refine q_iload rfl rfl rfl ?_
    refine q_iconst rfl rfl ?_
    refine q_iadd rfl rfl (q_tn (z := 1) rfl ?_)
    refine q_iast rfl rfl (by decide) rfl (by decide) ?_
    refine q_iload rfl rfl rfl ?_
    refine q_iret rfl rfl trivial ?_
    refine ⟨_, rfl, ?_⟩
    refine q_iret rfl rfl trivial ?_
    refine ⟨_, rfl, ?_⟩
    refine q_pop rfl rfl ?_
    refine q_iconst rfl rfl ?_
    refine q_ist3n rfl rfl rfl rfl ?_
    refine q_iload_n rfl rfl rfl ?_
    refine q_sipush rfl rfl ?_
    refine q_icge rfl rfl (fun c150 => absurd c150 (by decide)) (fun c150 => ?_)
    refine q_iload_n rfl rfl rfl ?_
    refine q_aload_n rfl rfl rfl ?_
    refine q_getf rfl rfl (by decide) rfl rfl ?_
    refine q_icge rfl rfl (fun c151 => absurd c151 (by decide)) (fun c151 => ?_)
    refine q_aload_n rfl rfl rfl ?_
    refine q_aload_n rfl rfl rfl ?_
    refine q_iload_n rfl rfl rfl ?_
    refine q_nV2v rfl rfl (Or.inl rfl) rfl rfl rfl (by decide) rfl ⟨rfl, rfl⟩ rfl ?_
    change PQ _ _ _ mm_X7_lookAt 0 [.ref 16, .ref 7, .int 0, pm_un, pm_un, pm_un, pm_un, pm_un, pm_un, pm_un] [] _ _ 0 0 _
    refine q_aload_n rfl rfl rfl ?_
    refine q_getf rfl rfl (by decide) rfl rfl ?_
    refine q_iload_n rfl rfl rfl ?_
    refine q_lald rfl rfl (by decide) rfl (by decide) (q_tnl (z := 0) rfl ?_)
    refine q_lst3n rfl rfl rfl rfl ?_
    refine q_aload_n rfl rfl rfl ?_
    refine q_aload_n rfl rfl rfl ?_
    refine q_lload_n rfl rfl rfl ?_
    refine q_nV1 rfl rfl (Or.inl rfl) rfl rfl rfl (by decide) rfl ⟨rfl, rfl⟩ rfl ?_
    change PQ _ _ _ mm_X6_ableHands 0 [.ref 7, .long 0, pm_un, pm_un, pm_un, pm_un] [] _ _ 0 0 _
    refine q_aload_n rfl rfl rfl ?_
    refine q_lload_n rfl rfl rfl ?_
    refine q_nV1 rfl rfl (Or.inl rfl) rfl rfl rfl (by decide) rfl ⟨rfl, rfl⟩ rfl ?_
    change PQ _ _ _ mm_X6_allMeet 0 [.ref 7, .long 0, pm_un, pm_un, pm_un] [] _ _ 0 0 _
    refine q_iconst rfl rfl ?_
    refine q_ist3n rfl rfl rfl rfl ?_
    refine q_iload_n rfl rfl rfl ?_
    refine q_aload_n rfl rfl rfl ?_
    refine q_getf rfl rfl (by decide) rfl rfl ?_
    refine q_getf rfl rfl (by decide) (FW_1 S hW) rfl ?_
    refine q_icge rfl rfl (fun c152 => absurd c152 (by decide)) (fun c152 => ?_)
    refine q_aload_n rfl rfl rfl ?_
    refine q_getf rfl rfl (by decide) rfl rfl ?_
    refine q_iload_n rfl rfl rfl ?_
    refine q_lload_n rfl rfl rfl ?_
    refine q_iload_n rfl rfl rfl ?_
    refine q_nS2 rfl rfl (Or.inl rfl) rfl rfl ⟨rfl, rfl⟩ rfl ?_
    change PQ _ _ _ mm_X0_position 0 [.long 0, pm_un, .int 0] [] _ _ 0 0 _
    refine q_lload_n rfl rfl rfl ?_
    refine q_bipush rfl rfl ?_
    refine q_iload_n rfl rfl rfl ?_
    refine q_imul rfl rfl (q_tn (z := 0) rfl ?_)
    refine q_lushr rfl rfl (q_tnl (z := 0) rfl ?_)
    refine q_l2i rfl rfl (q_tn (z := 0) rfl ?_)
    refine q_bipush rfl rfl ?_
    refine q_iand rfl rfl (q_tn (z := 0) rfl ?_)
    refine q_iret rfl rfl trivial ?_
    refine ⟨_, rfl, ?_⟩
    refine q_nV2 rfl rfl (Or.inl rfl) rfl rfl rfl (by decide) (FW_1 S hW) ⟨rfl, rfl⟩ rfl ?_
    change PQ _ _ _ mm_X8_cellOf 0 [.ref 1, .int 0, .int 0, pm_un] [] _ _ 0 0 _
    refine q_iload_n rfl rfl rfl ?_
    refine q_iflt rfl rfl (fun c153 => absurd c153 (by decide)) (fun c153 => ?_)
    refine q_iload_n rfl rfl rfl ?_
    refine q_aload_n rfl rfl rfl ?_
    refine q_getf rfl rfl (by decide) (FW_1 S hW) rfl ?_
    refine q_icge rfl rfl (fun c154 => absurd c154 (by decide)) (fun c154 => ?_)
    refine q_iload_n rfl rfl rfl ?_
    refine q_iflt rfl rfl (fun c155 => absurd c155 (by decide)) (fun c155 => ?_)
    refine q_iload_n rfl rfl rfl ?_
    refine q_aload_n rfl rfl rfl ?_
    refine q_getf rfl rfl (by decide) (FW_1 S hW) rfl ?_
    refine q_iload_n rfl rfl rfl ?_
    refine q_iald rfl rfl (by decide) (FW_3 S hW) (by decide) (q_tn (z := 0) rfl ?_)
    refine q_icge rfl rfl (fun c156 => ?_) (fun c156 => absurd (by decide) c156)
    refine q_iconst rfl rfl ?_
    refine q_ist3n rfl rfl rfl rfl ?_
    refine q_iload_n rfl rfl rfl ?_
    refine q_ifeq rfl rfl (fun c157 => ?_) (fun c157 => absurd (by decide) c157)
    refine q_iconst rfl rfl ?_
    refine q_iret rfl rfl trivial ?_
    refine ⟨_, rfl, ?_⟩
    refine q_ist4 rfl rfl rfl rfl ?_
    refine q_iload rfl rfl rfl ?_
    refine q_iflt rfl rfl (fun c158 => ?_) (fun c158 => absurd (by decide) c158)
    refine q_icc3 (z := 1) rfl rfl rfl rfl rfl ?_
    refine q_goto rfl ?_
    refine q_iload_n rfl rfl rfl ?_
    refine q_aload_n rfl rfl rfl ?_
    refine q_getf rfl rfl (by decide) rfl rfl ?_
    refine q_getf rfl rfl (by decide) (FW_1 S hW) rfl ?_
    refine q_icge rfl rfl (fun c159 => ?_) (fun c159 => absurd (by decide) c159)
    refine q_iconst rfl rfl ?_
    refine q_iret rfl rfl rfl ?_
    refine ⟨_, rfl, ?_⟩
    refine q_ist3n rfl rfl rfl rfl ?_
    refine q_iconst rfl rfl ?_
    refine q_ist4 rfl rfl rfl rfl ?_
    refine q_iconst rfl rfl ?_
    refine q_ist5 rfl rfl rfl rfl ?_
    refine q_iload rfl rfl rfl ?_
    refine q_aload_n rfl rfl rfl ?_
    refine q_getf rfl rfl (by decide) rfl rfl ?_
    refine q_getf rfl rfl (by decide) (FW_1 S hW) rfl ?_
    refine q_icge rfl rfl (fun c160 => absurd c160 (by decide)) (fun c160 => ?_)
    refine q_aload_n rfl rfl rfl ?_
    refine q_lload_n rfl rfl rfl ?_
    refine q_iload rfl rfl rfl ?_
    refine q_iload_n rfl rfl rfl ?_
    refine q_nV3 rfl rfl (Or.inl rfl) rfl rfl rfl (by decide) rfl ⟨rfl, rfl⟩ rfl ?_
    change PQ _ _ _ mm_X6_isAble 0 [.ref 7, .long 0, pm_un, .int 0, .int 1, pm_un, pm_un, pm_un] [] _ _ 0 0 _
    refine q_aload_n rfl rfl rfl ?_
    refine q_getf rfl rfl (by decide) rfl rfl ?_
    refine q_iload_n rfl rfl rfl ?_
    refine q_lload_n rfl rfl rfl ?_
    refine q_iload_n rfl rfl rfl ?_
    refine q_nS2 rfl rfl (Or.inl rfl) rfl rfl ⟨rfl, rfl⟩ rfl ?_
    change PQ _ _ _ mm_X0_position 0 [.long 0, pm_un, .int 0] [] _ _ 0 0 _
    refine q_lload_n rfl rfl rfl ?_
    refine q_bipush rfl rfl ?_
    refine q_iload_n rfl rfl rfl ?_
    refine q_imul rfl rfl (q_tn (z := 0) rfl ?_)
    refine q_lushr rfl rfl (q_tnl (z := 0) rfl ?_)
    refine q_l2i rfl rfl (q_tn (z := 0) rfl ?_)
    refine q_bipush rfl rfl ?_
    refine q_iand rfl rfl (q_tn (z := 0) rfl ?_)
    refine q_iret rfl rfl trivial ?_
    refine ⟨_, rfl, ?_⟩
    refine q_nV2 rfl rfl (Or.inl rfl) rfl rfl rfl (by decide) (FW_1 S hW) ⟨rfl, rfl⟩ rfl ?_
    change PQ _ _ _ mm_X8_cellOf 0 [.ref 1, .int 0, .int 0, pm_un] [] _ _ 0 0 _
    refine q_iload_n rfl rfl rfl ?_
    refine q_iflt rfl rfl (fun c161 => absurd c161 (by decide)) (fun c161 => ?_)
    refine q_iload_n rfl rfl rfl ?_
    refine q_aload_n rfl rfl rfl ?_
    refine q_getf rfl rfl (by decide) (FW_1 S hW) rfl ?_
    refine q_icge rfl rfl (fun c162 => absurd c162 (by decide)) (fun c162 => ?_)
    refine q_iload_n rfl rfl rfl ?_
    refine q_iflt rfl rfl (fun c163 => absurd c163 (by decide)) (fun c163 => ?_)
    refine q_iload_n rfl rfl rfl ?_
    refine q_aload_n rfl rfl rfl ?_
    refine q_getf rfl rfl (by decide) (FW_1 S hW) rfl ?_
    refine q_iload_n rfl rfl rfl ?_
    refine q_iald rfl rfl (by decide) (FW_3 S hW) (by decide) (q_tn (z := 0) rfl ?_)
    refine q_icge rfl rfl (fun c164 => ?_) (fun c164 => absurd (by decide) c164)
    refine q_iconst rfl rfl ?_
    refine q_ist3n rfl rfl rfl rfl ?_
    refine q_iload_n rfl rfl rfl ?_
    refine q_ifeq rfl rfl (fun c165 => ?_) (fun c165 => absurd (by decide) c165)
    refine q_iconst rfl rfl ?_
    refine q_iret rfl rfl trivial ?_
    refine ⟨_, rfl, ?_⟩
    refine q_ist5 rfl rfl rfl rfl ?_
    refine q_iload rfl rfl rfl ?_
    refine q_ifge rfl rfl (fun c166 => absurd c166 (by decide)) (fun c166 => ?_)
    refine q_iconst rfl rfl ?_
    refine q_iret rfl rfl rfl ?_
    refine ⟨_, rfl, ?_⟩
    refine q_ifeq rfl rfl (fun c167 => ?_) (fun c167 => absurd (by decide) c167)
    refine q_icc5 (z := 1) rfl rfl rfl rfl rfl ?_
    refine q_goto rfl ?_
    refine q_iload rfl rfl rfl ?_
    refine q_aload_n rfl rfl rfl ?_
    refine q_getf rfl rfl (by decide) rfl rfl ?_
    refine q_getf rfl rfl (by decide) (FW_1 S hW) rfl ?_
    refine q_icge rfl rfl (fun c168 => ?_) (fun c168 => absurd (by decide) c168)
    refine q_iload rfl rfl rfl ?_
    refine q_iret rfl rfl trivial ?_
    refine ⟨_, rfl, ?_⟩
    refine q_lload_n rfl rfl rfl ?_
    refine q_nS1 rfl rfl (Or.inl rfl) rfl rfl ⟨rfl, rfl⟩ rfl ?_
    change PQ _ _ _ mm_X0_last 0 [.long 0, pm_un] [] _ _ 0 0 _
    refine q_lload_n rfl rfl rfl ?_
    refine q_bipush rfl rfl ?_
    refine q_lushr rfl rfl (q_tnl (z := 0) rfl ?_)
    refine q_l2i rfl rfl (q_tn (z := 0) rfl ?_)
    refine q_iconst rfl rfl ?_
    refine q_iand rfl rfl (q_tn (z := 0) rfl ?_)
    refine q_iconst rfl rfl ?_
    refine q_isub rfl rfl (q_tn (z := (-1)) rfl ?_)
    refine q_iret rfl rfl trivial ?_
    refine ⟨_, rfl, ?_⟩
    refine q_nV2 rfl rfl (Or.inl rfl) rfl rfl rfl (by decide) rfl ⟨rfl, rfl⟩ rfl ?_
    change PQ _ _ _ mm_X6_chosenHands 0 [.ref 7, .int 0, .int (-1), pm_un, pm_un] [] _ _ 0 0 _
    refine q_aload_n rfl rfl rfl ?_
    refine q_getf rfl rfl (by decide) rfl rfl ?_
    refine q_iconst rfl rfl ?_
    refine q_icne rfl rfl (fun c169 => absurd c169 (by decide)) (fun c169 => ?_)
    refine q_aload_n rfl rfl rfl ?_
    refine q_getf rfl rfl (by decide) rfl rfl ?_
    refine q_iconst rfl rfl ?_
    refine q_iceq rfl rfl (fun c170 => ?_) (fun c170 => absurd (by decide) c170)
    refine q_iconst rfl rfl ?_
    refine q_ist3n rfl rfl rfl rfl ?_
    refine q_iload_n rfl rfl rfl ?_
    refine q_aload_n rfl rfl rfl ?_
    refine q_getf rfl rfl (by decide) rfl rfl ?_
    refine q_getf rfl rfl (by decide) (FW_1 S hW) rfl ?_
    refine q_icgt rfl rfl (fun c171 => absurd c171 (by decide)) (fun c171 => ?_)
    refine q_iload_n rfl rfl rfl ?_
    refine q_iload_n rfl rfl rfl ?_
    refine q_iadd rfl rfl (q_tn (z := 0) rfl ?_)
    refine q_aload_n rfl rfl rfl ?_
    refine q_getf rfl rfl (by decide) rfl rfl ?_
    refine q_getf rfl rfl (by decide) (FW_1 S hW) rfl ?_
    refine q_icge rfl rfl (fun c172 => absurd c172 (by decide)) (fun c172 => ?_)
    refine q_iload_n rfl rfl rfl ?_
    refine q_iload_n rfl rfl rfl ?_
    refine q_iadd rfl rfl (q_tn (z := 0) rfl ?_)
    refine q_goto rfl ?_
    refine q_ist4 rfl rfl rfl rfl ?_
    refine q_iload_n rfl rfl rfl ?_
    refine q_iload rfl rfl rfl ?_
    refine q_iushr rfl rfl (q_tn (z := 0) rfl ?_)
    refine q_iconst rfl rfl ?_
    refine q_iand rfl rfl (q_tn (z := 0) rfl ?_)
    refine q_ifeq rfl rfl (fun c173 => ?_) (fun c173 => absurd (by decide) c173)
    refine q_icc3 (z := 2) rfl rfl rfl rfl rfl ?_
    refine q_goto rfl ?_
    refine q_iload_n rfl rfl rfl ?_
    refine q_aload_n rfl rfl rfl ?_
    refine q_getf rfl rfl (by decide) rfl rfl ?_
    refine q_getf rfl rfl (by decide) (FW_1 S hW) rfl ?_
    refine q_icgt rfl rfl (fun c174 => ?_) (fun c174 => absurd (by decide) c174)
    refine q_iconst rfl rfl ?_
    refine q_iret rfl rfl trivial ?_
    refine ⟨_, rfl, ?_⟩
    refine q_ist5 rfl rfl rfl rfl ?_
    refine q_iconst rfl rfl ?_
    refine q_ist6 rfl rfl rfl rfl ?_
    refine q_iload rfl rfl rfl ?_
    refine q_iconst rfl rfl ?_
    refine q_icge rfl rfl (fun c175 => absurd c175 (by decide)) (fun c175 => ?_)
    refine q_iconst rfl rfl ?_
    refine q_ist7 rfl rfl rfl rfl ?_
    refine q_iload rfl rfl rfl ?_
    refine q_iload rfl rfl rfl ?_
    refine q_iushr rfl rfl (q_tn (z := 0) rfl ?_)
    refine q_iconst rfl rfl ?_
    refine q_iand rfl rfl (q_tn (z := 0) rfl ?_)
    refine q_ifeq rfl rfl (fun c176 => ?_) (fun c176 => absurd (by decide) c176)
    refine q_aload_n rfl rfl rfl ?_
    refine q_getf rfl rfl (by decide) rfl rfl ?_
    refine q_iload_n rfl rfl rfl ?_
    refine q_iconst rfl rfl ?_
    refine q_imul rfl rfl (q_tn (z := 0) rfl ?_)
    refine q_iload rfl rfl rfl ?_
    refine q_iadd rfl rfl (q_tn (z := 0) rfl ?_)
    refine q_iload rfl rfl rfl ?_
    refine q_iast rfl rfl (by decide) rfl (by decide) ?_
    refine q_icc6 (z := 1) rfl rfl rfl rfl rfl ?_
    refine q_goto rfl ?_
    refine q_iload rfl rfl rfl ?_
    refine q_iconst rfl rfl ?_
    refine q_icge rfl rfl (fun c177 => absurd c177 (by decide)) (fun c177 => ?_)
    refine q_iconst rfl rfl ?_
    refine q_ist7 rfl rfl rfl rfl ?_
    refine q_iload rfl rfl rfl ?_
    refine q_iload rfl rfl rfl ?_
    refine q_iushr rfl rfl (q_tn (z := 0) rfl ?_)
    refine q_iconst rfl rfl ?_
    refine q_iand rfl rfl (q_tn (z := 0) rfl ?_)
    refine q_ifeq rfl rfl (fun c178 => ?_) (fun c178 => absurd (by decide) c178)
    refine q_aload_n rfl rfl rfl ?_
    refine q_getf rfl rfl (by decide) rfl rfl ?_
    refine q_iload_n rfl rfl rfl ?_
    refine q_iconst rfl rfl ?_
    refine q_imul rfl rfl (q_tn (z := 0) rfl ?_)
    refine q_iload rfl rfl rfl ?_
    refine q_iadd rfl rfl (q_tn (z := 1) rfl ?_)
    refine q_iload rfl rfl rfl ?_
    refine q_iast rfl rfl (by decide) rfl (by decide) ?_
    refine q_icc6 (z := 2) rfl rfl rfl rfl rfl ?_
    refine q_goto rfl ?_
    refine q_iload rfl rfl rfl ?_
    refine q_iconst rfl rfl ?_
    refine q_icge rfl rfl (fun c179 => absurd c179 (by decide)) (fun c179 => ?_)
    refine q_iconst rfl rfl ?_
    refine q_ist7 rfl rfl rfl rfl ?_
    refine q_iload rfl rfl rfl ?_
    refine q_iload rfl rfl rfl ?_
    refine q_iushr rfl rfl (q_tn (z := 0) rfl ?_)
    refine q_iconst rfl rfl ?_
    refine q_iand rfl rfl (q_tn (z := 0) rfl ?_)
    refine q_ifeq rfl rfl (fun c180 => ?_) (fun c180 => absurd (by decide) c180)
    refine q_aload_n rfl rfl rfl ?_
    refine q_getf rfl rfl (by decide) rfl rfl ?_
    refine q_iload_n rfl rfl rfl ?_
    refine q_iconst rfl rfl ?_
    refine q_imul rfl rfl (q_tn (z := 0) rfl ?_)
    refine q_iload rfl rfl rfl ?_
    refine q_iadd rfl rfl (q_tn (z := 2) rfl ?_)
    refine q_iload rfl rfl rfl ?_
    refine q_iast rfl rfl (by decide) rfl (by decide) ?_
    refine q_icc6 (z := 3) rfl rfl rfl rfl rfl ?_
    refine q_goto rfl ?_
    refine q_iload rfl rfl rfl ?_
    refine q_iconst rfl rfl ?_
    refine q_icge rfl rfl (fun c181 => ?_) (fun c181 => absurd (by decide) c181)
    refine q_aload_n rfl rfl rfl ?_
    refine q_getf rfl rfl (by decide) rfl rfl ?_
    refine q_iload_n rfl rfl rfl ?_
    refine q_iload rfl rfl rfl ?_
    refine q_ifeq rfl rfl (fun c182 => ?_) (fun c182 => absurd (by decide) c182)
    refine q_aload_n rfl rfl rfl ?_
    refine q_lload_n rfl rfl rfl ?_
    refine q_nV1 rfl rfl (Or.inl rfl) rfl rfl rfl (by decide) rfl ⟨rfl, rfl⟩ rfl ?_
    change PQ _ _ _ mm_X6_isEnd 0 [.ref 7, .long 0, pm_un, pm_un] [] _ _ 0 0 _
    refine q_iconst rfl rfl ?_
    refine q_ist3n rfl rfl rfl rfl ?_
    refine q_iload_n rfl rfl rfl ?_
    refine q_aload_n rfl rfl rfl ?_
    refine q_getf rfl rfl (by decide) rfl rfl ?_
    refine q_getf rfl rfl (by decide) (FW_1 S hW) rfl ?_
    refine q_icge rfl rfl (fun c183 => absurd c183 (by decide)) (fun c183 => ?_)
    refine q_aload_n rfl rfl rfl ?_
    refine q_getf rfl rfl (by decide) rfl rfl ?_
    refine q_iload_n rfl rfl rfl ?_
    refine q_lload_n rfl rfl rfl ?_
    refine q_iload_n rfl rfl rfl ?_
    as_aux_lemma =>
      refine q_nS2 rfl rfl (Or.inl rfl) rfl rfl ⟨rfl, rfl⟩ rfl ?_
      change PQ _ _ _ mm_X0_position 0 [.long 0, pm_un, .int 0] [] _ _ 0 0 _
      refine q_lload_n rfl rfl rfl ?_
      refine q_bipush rfl rfl ?_
      refine q_iload_n rfl rfl rfl ?_
      refine q_imul rfl rfl (q_tn (z := 0) rfl ?_)
      refine q_lushr rfl rfl (q_tnl (z := 0) rfl ?_)
      refine q_l2i rfl rfl (q_tn (z := 0) rfl ?_)
      refine q_bipush rfl rfl ?_
      refine q_iand rfl rfl (q_tn (z := 0) rfl ?_)
      refine q_iret rfl rfl trivial ?_
      refine ⟨_, rfl, ?_⟩
      refine q_nV2 rfl rfl (Or.inl rfl) rfl rfl rfl (by decide) (FW_1 S hW) ⟨rfl, rfl⟩ rfl ?_
      change PQ _ _ _ mm_X8_cellOf 0 [.ref 1, .int 0, .int 0, pm_un] [] _ _ 0 0 _
      refine q_iload_n rfl rfl rfl ?_
      refine q_iflt rfl rfl (fun c184 => absurd c184 (by decide)) (fun c184 => ?_)
      refine q_iload_n rfl rfl rfl ?_
      refine q_aload_n rfl rfl rfl ?_
      refine q_getf rfl rfl (by decide) (FW_1 S hW) rfl ?_
      refine q_icge rfl rfl (fun c185 => absurd c185 (by decide)) (fun c185 => ?_)
      refine q_iload_n rfl rfl rfl ?_
      refine q_iflt rfl rfl (fun c186 => absurd c186 (by decide)) (fun c186 => ?_)
      refine q_iload_n rfl rfl rfl ?_
      refine q_aload_n rfl rfl rfl ?_
      refine q_getf rfl rfl (by decide) (FW_1 S hW) rfl ?_
      refine q_iload_n rfl rfl rfl ?_
      refine q_iald rfl rfl (by decide) (FW_3 S hW) (by decide) (q_tn (z := 0) rfl ?_)
      refine q_icge rfl rfl (fun c187 => ?_) (fun c187 => absurd (by decide) c187)
      refine q_iconst rfl rfl ?_
      refine q_ist3n rfl rfl rfl rfl ?_
      refine q_iload_n rfl rfl rfl ?_
      refine q_ifeq rfl rfl (fun c188 => ?_) (fun c188 => absurd (by decide) c188)
      refine q_iconst rfl rfl ?_
      refine q_iret rfl rfl trivial ?_
      refine ⟨_, rfl, ?_⟩
      refine q_iflt rfl rfl (fun c189 => ?_) (fun c189 => absurd (by decide) c189)
      refine q_icc3 (z := 1) rfl rfl rfl rfl rfl ?_
      refine q_goto rfl ?_
      refine q_iload_n rfl rfl rfl ?_
      refine q_aload_n rfl rfl rfl ?_
      refine q_getf rfl rfl (by decide) rfl rfl ?_
      refine q_getf rfl rfl (by decide) (FW_1 S hW) rfl ?_
      refine q_icge rfl rfl (fun c190 => ?_) (fun c190 => absurd (by decide) c190)
      refine q_iconst rfl rfl ?_
      refine q_iret rfl rfl rfl ?_
      refine ⟨_, rfl, ?_⟩
      refine q_ifeq rfl rfl (fun c191 => absurd c191 (by decide)) (fun c191 => ?_)
      refine q_iconst rfl rfl ?_
      refine q_goto rfl ?_
      refine q_iast rfl rfl (by decide) rfl (by decide) ?_
      refine q_aload_n rfl rfl rfl ?_
      refine q_dupr rfl rfl ?_
      refine q_getf rfl rfl (by decide) rfl rfl ?_
      refine q_aload_n rfl rfl rfl ?_
      refine q_getf rfl rfl (by decide) rfl rfl ?_
      refine q_iload_n rfl rfl rfl ?_
      refine q_iald rfl rfl (by decide) rfl (by decide) (q_tn (z := 1) rfl ?_)
      refine q_iconst rfl rfl ?_
      refine q_iceq rfl rfl (fun c192 => absurd c192 (by decide)) (fun c192 => ?_)
      refine q_aload_n rfl rfl rfl ?_
      refine q_lload_n rfl rfl rfl ?_
      refine q_nV1 rfl rfl (Or.inl rfl) rfl rfl rfl (by decide) rfl ⟨rfl, rfl⟩ rfl ?_
      change PQ _ _ _ mm_X6_someFailed 0 [.ref 7, .long 0, pm_un, pm_un] [] _ _ 0 0 _
      refine q_iconst rfl rfl ?_
      refine q_ist3n rfl rfl rfl rfl ?_
      refine q_iload_n rfl rfl rfl ?_
      refine q_aload_n rfl rfl rfl ?_
      refine q_getf rfl rfl (by decide) rfl rfl ?_
      refine q_getf rfl rfl (by decide) (FW_1 S hW) rfl ?_
      refine q_icge rfl rfl (fun c193 => absurd c193 (by decide)) (fun c193 => ?_)
      refine q_lload_n rfl rfl rfl ?_
      refine q_iload_n rfl rfl rfl ?_
      refine q_nS2 rfl rfl (Or.inl rfl) rfl rfl ⟨rfl, rfl⟩ rfl ?_
      change PQ _ _ _ mm_X0_position 0 [.long 0, pm_un, .int 0] [] _ _ 0 0 _
      refine q_lload_n rfl rfl rfl ?_
      refine q_bipush rfl rfl ?_
      refine q_iload_n rfl rfl rfl ?_
      refine q_imul rfl rfl (q_tn (z := 0) rfl ?_)
      refine q_lushr rfl rfl (q_tnl (z := 0) rfl ?_)
      refine q_l2i rfl rfl (q_tn (z := 0) rfl ?_)
      refine q_bipush rfl rfl ?_
      refine q_iand rfl rfl (q_tn (z := 0) rfl ?_)
      refine q_iret rfl rfl trivial ?_
      refine ⟨_, rfl, ?_⟩
      refine q_bipush rfl rfl ?_
      refine q_icne rfl rfl (fun c194 => absurd c194 (by decide)) (fun c194 => ?_)
      refine q_icc3 (z := 1) rfl rfl rfl rfl rfl ?_
      refine q_goto rfl ?_
      refine q_iload_n rfl rfl rfl ?_
      refine q_aload_n rfl rfl rfl ?_
      refine q_getf rfl rfl (by decide) rfl rfl ?_
      refine q_getf rfl rfl (by decide) (FW_1 S hW) rfl ?_
      refine q_icge rfl rfl (fun c195 => ?_) (fun c195 => absurd (by decide) c195)
      refine q_iconst rfl rfl ?_
      refine q_iret rfl rfl rfl ?_
      refine ⟨_, rfl, ?_⟩
      refine q_ifeq rfl rfl (fun c196 => ?_) (fun c196 => absurd (by decide) c196)
      refine q_iconst rfl rfl ?_
      refine q_ior rfl rfl (q_tn (z := 0) rfl ?_)
      refine q_putf rfl rfl (by decide) rfl (by decide) rfl rfl ?_
      refine q_aload_n rfl rfl rfl ?_
      refine q_getf rfl rfl (by decide) rfl rfl ?_
      refine q_iload_n rfl rfl rfl ?_
      refine q_iald rfl rfl (by decide) rfl (by decide) (q_tn (z := 1) rfl ?_)
      refine q_iconst rfl rfl ?_
      refine q_icne rfl rfl (fun c197 => ?_) (fun c197 => absurd (by decide) c197)
      refine q_aload_n rfl rfl rfl ?_
      refine q_lload_n rfl rfl rfl ?_
      refine q_nV1v rfl rfl (Or.inl rfl) rfl rfl rfl (by decide) rfl ⟨rfl, rfl⟩ rfl ?_
      change PQ _ _ _ mm_X7_noteEnd 0 [.ref 16, .long 0, pm_un, pm_un] [] _ _ 0 0 _
      refine q_iconst rfl rfl ?_
      refine q_ist3n rfl rfl rfl rfl ?_
      refine q_iload_n rfl rfl rfl ?_
      refine q_iconst rfl rfl ?_
      refine q_icge rfl rfl (fun c198 => absurd c198 (by decide)) (fun c198 => ?_)
      refine q_aload_n rfl rfl rfl ?_
      refine q_dupr rfl rfl ?_
      refine q_getf rfl rfl (by decide) rfl rfl ?_
      refine q_lconst rfl rfl ?_
      refine q_bipush rfl rfl ?_
      refine q_iload_n rfl rfl rfl ?_
      refine q_imul rfl rfl (q_tn (z := 0) rfl ?_)
      refine q_lload_n rfl rfl rfl ?_
      refine q_iload_n rfl rfl rfl ?_
      refine q_nS2 rfl rfl (Or.inl rfl) rfl rfl ⟨rfl, rfl⟩ rfl ?_
      change PQ _ _ _ mm_X0_place 0 [.long 0, pm_un, .int 0] [] _ _ 0 0 _
      refine q_lload_n rfl rfl rfl ?_
      refine q_bipush rfl rfl ?_
      refine q_iconst rfl rfl ?_
      refine q_iload_n rfl rfl rfl ?_
      refine q_imul rfl rfl (q_tn (z := 0) rfl ?_)
      refine q_iadd rfl rfl (q_tn (z := 36) rfl ?_)
      refine q_lushr rfl rfl (q_tnl (z := 0) rfl ?_)
      refine q_l2i rfl rfl (q_tn (z := 0) rfl ?_)
      refine q_bipush rfl rfl ?_
      refine q_iand rfl rfl (q_tn (z := 0) rfl ?_)
      refine q_iret rfl rfl trivial ?_
      refine ⟨_, rfl, ?_⟩
      refine q_iadd rfl rfl (q_tn (z := 0) rfl ?_)
      refine q_lshl rfl rfl (q_tnl (z := 1) rfl ?_)
      refine q_lor rfl rfl (q_tnl (z := 1) rfl ?_)
      refine q_putf rfl rfl (by decide) rfl (by decide) rfl trivial ?_
      refine q_icc3 (z := 1) rfl rfl rfl rfl rfl ?_
      refine q_goto rfl ?_
      refine q_iload_n rfl rfl rfl ?_
      refine q_iconst rfl rfl ?_
      refine q_icge rfl rfl (fun c199 => absurd c199 (by decide)) (fun c199 => ?_)
      refine q_aload_n rfl rfl rfl ?_
      refine q_dupr rfl rfl ?_
      refine q_getf rfl rfl (by decide) rfl rfl ?_
      refine q_lconst rfl rfl ?_
      refine q_bipush rfl rfl ?_
      refine q_iload_n rfl rfl rfl ?_
      refine q_imul rfl rfl (q_tn (z := 10) rfl ?_)
      refine q_lload_n rfl rfl rfl ?_
      refine q_iload_n rfl rfl rfl ?_
      refine q_nS2 rfl rfl (Or.inl rfl) rfl rfl ⟨rfl, rfl⟩ rfl ?_
      change PQ _ _ _ mm_X0_place 0 [.long 0, pm_un, .int 1] [] _ _ 0 0 _
      refine q_lload_n rfl rfl rfl ?_
      refine q_bipush rfl rfl ?_
      refine q_iconst rfl rfl ?_
      refine q_iload_n rfl rfl rfl ?_
      refine q_imul rfl rfl (q_tn (z := 4) rfl ?_)
      refine q_iadd rfl rfl (q_tn (z := 40) rfl ?_)
      refine q_lushr rfl rfl (q_tnl (z := 0) rfl ?_)
      refine q_l2i rfl rfl (q_tn (z := 0) rfl ?_)
      refine q_bipush rfl rfl ?_
      refine q_iand rfl rfl (q_tn (z := 0) rfl ?_)
      refine q_iret rfl rfl trivial ?_
      refine ⟨_, rfl, ?_⟩
      refine q_iadd rfl rfl (q_tn (z := 10) rfl ?_)
      refine q_lshl rfl rfl (q_tnl (z := 1024) rfl ?_)
      refine q_lor rfl rfl (q_tnl (z := 1025) rfl ?_)
      refine q_putf rfl rfl (by decide) rfl (by decide) rfl trivial ?_
      refine q_icc3 (z := 2) rfl rfl rfl rfl rfl ?_
      refine q_goto rfl ?_
      refine q_iload_n rfl rfl rfl ?_
      refine q_iconst rfl rfl ?_
      refine q_icge rfl rfl (fun c200 => absurd c200 (by decide)) (fun c200 => ?_)
      refine q_aload_n rfl rfl rfl ?_
      refine q_dupr rfl rfl ?_
      refine q_getf rfl rfl (by decide) rfl rfl ?_
      refine q_lconst rfl rfl ?_
      refine q_bipush rfl rfl ?_
      refine q_iload_n rfl rfl rfl ?_
      refine q_imul rfl rfl (q_tn (z := 20) rfl ?_)
      refine q_lload_n rfl rfl rfl ?_
      refine q_iload_n rfl rfl rfl ?_
      refine q_nS2 rfl rfl (Or.inl rfl) rfl rfl ⟨rfl, rfl⟩ rfl ?_
      change PQ _ _ _ mm_X0_place 0 [.long 0, pm_un, .int 2] [] _ _ 0 0 _
      refine q_lload_n rfl rfl rfl ?_
      refine q_bipush rfl rfl ?_
      refine q_iconst rfl rfl ?_
      refine q_iload_n rfl rfl rfl ?_
      refine q_imul rfl rfl (q_tn (z := 8) rfl ?_)
      refine q_iadd rfl rfl (q_tn (z := 44) rfl ?_)
      refine q_lushr rfl rfl (q_tnl (z := 0) rfl ?_)
      refine q_l2i rfl rfl (q_tn (z := 0) rfl ?_)
      refine q_bipush rfl rfl ?_
      refine q_iand rfl rfl (q_tn (z := 0) rfl ?_)
      refine q_iret rfl rfl trivial ?_
      refine ⟨_, rfl, ?_⟩
      refine q_iadd rfl rfl (q_tn (z := 20) rfl ?_)
      refine q_lshl rfl rfl (q_tnl (z := 1048576) rfl ?_)
      refine q_lor rfl rfl (q_tnl (z := 1049601) rfl ?_)
      refine q_putf rfl rfl (by decide) rfl (by decide) rfl trivial ?_
      refine q_icc3 (z := 3) rfl rfl rfl rfl rfl ?_
      refine q_goto rfl ?_
      refine q_iload_n rfl rfl rfl ?_
      refine q_iconst rfl rfl ?_
      refine q_icge rfl rfl (fun c201 => absurd c201 (by decide)) (fun c201 => ?_)
      refine q_aload_n rfl rfl rfl ?_
      refine q_dupr rfl rfl ?_
      refine q_getf rfl rfl (by decide) rfl rfl ?_
      refine q_lconst rfl rfl ?_
      refine q_bipush rfl rfl ?_
      refine q_iload_n rfl rfl rfl ?_
      refine q_imul rfl rfl (q_tn (z := 30) rfl ?_)
      refine q_lload_n rfl rfl rfl ?_
      refine q_iload_n rfl rfl rfl ?_
      refine q_nS2 rfl rfl (Or.inl rfl) rfl rfl ⟨rfl, rfl⟩ rfl ?_
      change PQ _ _ _ mm_X0_place 0 [.long 0, pm_un, .int 3] [] _ _ 0 0 _
      refine q_lload_n rfl rfl rfl ?_
      refine q_bipush rfl rfl ?_
      refine q_iconst rfl rfl ?_
      refine q_iload_n rfl rfl rfl ?_
      refine q_imul rfl rfl (q_tn (z := 12) rfl ?_)
      refine q_iadd rfl rfl (q_tn (z := 48) rfl ?_)
      refine q_lushr rfl rfl (q_tnl (z := 0) rfl ?_)
      refine q_l2i rfl rfl (q_tn (z := 0) rfl ?_)
      refine q_bipush rfl rfl ?_
      refine q_iand rfl rfl (q_tn (z := 0) rfl ?_)
      refine q_iret rfl rfl trivial ?_
      refine ⟨_, rfl, ?_⟩
      refine q_iadd rfl rfl (q_tn (z := 30) rfl ?_)
      refine q_lshl rfl rfl (q_tnl (z := 1073741824) rfl ?_)
      refine q_lor rfl rfl (q_tnl (z := 1074791425) rfl ?_)
      refine q_putf rfl rfl (by decide) rfl (by decide) rfl trivial ?_
      refine q_icc3 (z := 4) rfl rfl rfl rfl rfl ?_
      refine q_goto rfl ?_
      refine q_iload_n rfl rfl rfl ?_
      refine q_iconst rfl rfl ?_
      refine q_icge rfl rfl (fun c202 => ?_) (fun c202 => absurd (by decide) c202)
      refine q_ret rfl rfl ?_
      refine ⟨rfl, ?_⟩
      refine q_ret rfl rfl ?_
      refine ⟨rfl, ?_⟩
      refine q_aload_n rfl rfl rfl ?_
      refine q_getf rfl rfl (by decide) rfl rfl ?_
      refine q_ifne rfl rfl (fun c203 => ?_) (fun c203 => absurd (by decide) c203)
      refine q_iload_n rfl rfl rfl ?_
      refine q_ifeq rfl rfl (fun c204 => ?_) (fun c204 => absurd (by decide) c204)
      refine q_icc3 (z := 1) rfl rfl rfl rfl rfl ?_
      refine q_goto rfl ?_
      refine q_iload_n rfl rfl rfl ?_
      refine q_sipush rfl rfl ?_
      refine q_icge rfl rfl (fun c205 => absurd c205 (by decide)) (fun c205 => ?_)
      refine q_iload_n rfl rfl rfl ?_
      refine q_aload_n rfl rfl rfl ?_
      refine q_getf rfl rfl (by decide) rfl rfl ?_
      refine q_icge rfl rfl (fun c206 => ?_) (fun c206 => absurd (by decide) c206)
      refine q_ret rfl rfl ?_
      refine ⟨rfl, ?_⟩
      refine q_aload_n rfl rfl rfl ?_
      refine q_getf rfl rfl (by decide) (FW_0 S hW) rfl ?_
      refine q_iconst rfl rfl ?_
      refine q_putf rfl rfl (by decide) rfl (by decide) rfl trivial ?_
      refine q_aload_n rfl rfl rfl ?_
      refine q_getf rfl rfl (by decide) (FW_0 S hW) rfl ?_
      refine q_iload_n rfl rfl rfl ?_
      refine q_aload_n rfl rfl rfl ?_
      refine q_getf rfl rfl (by decide) rfl rfl ?_
      refine q_ifeq rfl rfl (fun c207 => ?_) (fun c207 => absurd (by decide) c207)
      refine q_aload_n rfl rfl rfl ?_
      refine q_getf rfl rfl (by decide) rfl rfl ?_
      refine q_iast rfl rfl (by decide) rfl (by decide) ?_
      refine q_aload_n rfl rfl rfl ?_
      refine q_getf rfl rfl (by decide) (FW_0 S hW) rfl ?_
      refine q_iload_n rfl rfl rfl ?_
      refine q_aload_n rfl rfl rfl ?_
      refine q_getf rfl rfl (by decide) rfl rfl ?_
      refine q_last rfl rfl (by decide) rfl (by decide) ?_
      refine q_aload_n rfl rfl rfl ?_
      refine q_getf rfl rfl (by decide) (FW_0 S hW) rfl ?_
      refine q_iload_n rfl rfl rfl ?_
      refine q_iald rfl rfl (by decide) rfl (by decide) (q_tn (z := 1) rfl ?_)
      refine q_iret rfl rfl trivial ?_
      refine ⟨_, rfl, ?_⟩
      refine q_bipush rfl rfl ?_
      refine q_icne rfl rfl (fun c208 => absurd c208 (by decide)) (fun c208 => ?_)
      refine q_iconst rfl rfl ?_
      refine q_ior rfl rfl (q_tn (z := 0) rfl ?_)
      refine q_ist1n rfl rfl rfl rfl ?_
      refine q_icc2 (z := 3) rfl rfl rfl rfl rfl ?_
      refine q_goto rfl ?_
      refine q_iload_n rfl rfl rfl ?_
      refine q_iconst rfl rfl ?_
      refine q_icge rfl rfl (fun c209 => absurd c209 (by decide)) (fun c209 => ?_)
      refine q_iload_n rfl rfl rfl ?_
      refine q_aload_n rfl rfl rfl ?_
      refine q_iload_n rfl rfl rfl ?_
      refine q_nV1 rfl rfl (Or.inl rfl) rfl rfl rfl (by decide) (FW_0 S hW) ⟨rfl, rfl⟩ rfl ?_
      change PQ _ _ _ mm_X11_sizeOf 0 [.ref 0, .int 3, pm_un] [] _ _ 0 0 _
      refine q_aload_n rfl rfl rfl ?_
      refine q_getf rfl rfl (by decide) (FW_0 S hW) rfl ?_
      refine q_iload_n rfl rfl rfl ?_
      refine q_iald rfl rfl (by decide) rfl (by decide) (q_tn (z := 0) rfl ?_)
      refine q_ifne rfl rfl (fun c210 => ?_) (fun c210 => absurd (by decide) c210)
      refine q_iload_n rfl rfl rfl ?_
      refine q_ifne rfl rfl (fun c211 => absurd c211 (by decide)) (fun c211 => ?_)
      refine q_aload_n rfl rfl rfl ?_
      refine q_getf rfl rfl (by decide) (FW_0 S hW) rfl ?_
      refine q_ast2n rfl rfl rfl rfl ?_
      refine q_aload_n rfl rfl rfl ?_
      refine q_getf rfl rfl (by decide) (FW_0 S hW) rfl ?_
      refine q_iload_n rfl rfl rfl ?_
      refine q_putf rfl rfl (by decide) rfl (by decide) rfl trivial ?_
      refine q_aload_n rfl rfl rfl ?_
      refine q_aload_n rfl rfl rfl ?_
      refine q_getf rfl rfl (by decide) (FW_0 S hW) rfl ?_
      refine q_iconst rfl rfl ?_
      refine q_nV2v rfl rfl (Or.inl rfl) rfl rfl rfl (by decide) rfl ⟨rfl, rfl⟩ rfl ?_
      change PQ _ _ _ mm_X7_explore 0 [.ref 16, .ref 7, .int 0, pm_un] [] _ _ 0 0 _
      refine q_aload_n rfl rfl rfl ?_
      refine q_nV0v rfl rfl (Or.inl rfl) rfl rfl rfl (by decide) rfl ⟨rfl, rfl⟩ rfl ?_
      change PQ _ _ _ mm_X7_clear 0 [.ref 16, pm_un] [] _ _ 0 0 _
      refine q_iconst rfl rfl ?_
      refine q_ist1n rfl rfl rfl rfl ?_
      refine q_iload_n rfl rfl rfl ?_
      refine q_aload_n rfl rfl rfl ?_
      refine q_getf rfl rfl (by decide) rfl rfl ?_
      refine q_icge rfl rfl (fun c212 => absurd c212 (by decide)) (fun c212 => ?_)
      refine q_aload_n rfl rfl rfl ?_
      refine q_getf rfl rfl (by decide) rfl rfl ?_
      refine q_aload_n rfl rfl rfl ?_
      refine q_getf rfl rfl (by decide) rfl rfl ?_
      refine q_iload_n rfl rfl rfl ?_
      refine q_iald rfl rfl (by decide) rfl (by decide) (q_tn (z := 0) rfl ?_)
      refine q_iconst rfl rfl ?_
      refine q_iast rfl rfl (by decide) rfl (by decide) ?_
      refine q_icc1 (z := 1) rfl rfl rfl rfl rfl ?_
      refine q_goto rfl ?_
      refine q_iload_n rfl rfl rfl ?_
      refine q_aload_n rfl rfl rfl ?_
      refine q_getf rfl rfl (by decide) rfl rfl ?_
      refine q_icge rfl rfl (fun c213 => ?_) (fun c213 => absurd (by decide) c213)
      refine q_aload_n rfl rfl rfl ?_
      refine q_iconst rfl rfl ?_
      refine q_putf rfl rfl (by decide) rfl (by decide) rfl trivial ?_
      refine q_aload_n rfl rfl rfl ?_
      refine q_iconst rfl rfl ?_
      refine q_putf rfl rfl (by decide) rfl (by decide) rfl rfl ?_
      refine q_aload_n rfl rfl rfl ?_
      refine q_iconst rfl rfl ?_
      refine q_putf rfl rfl (by decide) rfl (by decide) rfl rfl ?_
      refine q_aload_n rfl rfl rfl ?_
      refine q_lconst rfl rfl ?_
      refine q_putf rfl rfl (by decide) rfl (by decide) rfl trivial ?_
      refine q_ret rfl rfl ?_
      refine ⟨rfl, ?_⟩
      refine q_aload_n rfl rfl rfl ?_
      refine q_aload_n rfl rfl rfl ?_
      refine q_nV0 rfl rfl (Or.inl rfl) rfl rfl rfl (by decide) rfl ⟨rfl, rfl⟩ rfl ?_
      change PQ _ _ _ mm_X6_first 0 [.ref 7, pm_un, pm_un, pm_un] [] _ _ 0 0 _
      refine q_lconst rfl rfl ?_
      refine q_lst1n rfl rfl rfl rfl ?_
      refine q_iconst rfl rfl ?_
      refine q_ist3n rfl rfl rfl rfl ?_
      refine q_iload_n rfl rfl rfl ?_
      refine q_iconst rfl rfl ?_
      refine q_icge rfl rfl (fun c214 => absurd c214 (by decide)) (fun c214 => ?_)
      refine q_lload_n rfl rfl rfl ?_
      refine q_iload_n rfl rfl rfl ?_
      refine q_aload_n rfl rfl rfl ?_
      refine q_getf rfl rfl (by decide) rfl rfl ?_
      refine q_getf rfl rfl (by decide) (FW_1 S hW) rfl ?_
      refine q_iload_n rfl rfl rfl ?_
      refine q_iald rfl rfl (by decide) (FW_2 S hW) (by decide) (q_tn (z := 0) rfl ?_)
      refine q_nS3 rfl rfl (Or.inl rfl) rfl rfl ⟨rfl, rfl⟩ rfl ?_
      change PQ _ _ _ mm_X0_withPlace 0 [.long 0, pm_un, .int 0, .int 0, pm_un] [] _ _ 0 0 _
      refine q_bipush rfl rfl ?_
      refine q_iconst rfl rfl ?_
      refine q_iload_n rfl rfl rfl ?_
      refine q_imul rfl rfl (q_tn (z := 0) rfl ?_)
      refine q_iadd rfl rfl (q_tn (z := 36) rfl ?_)
      refine q_ist4 rfl rfl rfl rfl ?_
      refine q_lload_n rfl rfl rfl ?_
      refine q_ldc2 rfl rfl ?_
      refine q_iload rfl rfl rfl ?_
      refine q_lshl rfl rfl (q_tnl (z := 1030792151040) rfl ?_)
      refine q_ldc2 rfl rfl ?_
      refine q_lxor rfl rfl (q_tnl (z := (-1030792151041)) rfl ?_)
      refine q_land rfl rfl (q_tnl (z := 0) rfl ?_)
      refine q_iload_n rfl rfl rfl ?_
      refine q_i2l rfl rfl (q_tnl (z := 0) rfl ?_)
      refine q_iload rfl rfl rfl ?_
      refine q_lshl rfl rfl (q_tnl (z := 0) rfl ?_)
      refine q_lor rfl rfl (q_tnl (z := 0) rfl ?_)
      refine q_lret rfl rfl trivial ?_
      refine ⟨_, rfl, ?_⟩
      refine q_lst1n rfl rfl rfl rfl ?_
      refine q_icc3 (z := 1) rfl rfl rfl rfl rfl ?_
      refine q_goto rfl ?_
      refine q_iload_n rfl rfl rfl ?_
      refine q_iconst rfl rfl ?_
      refine q_icge rfl rfl (fun c215 => absurd c215 (by decide)) (fun c215 => ?_)
      refine q_lload_n rfl rfl rfl ?_
      refine q_iload_n rfl rfl rfl ?_
      refine q_aload_n rfl rfl rfl ?_
      refine q_getf rfl rfl (by decide) rfl rfl ?_
      refine q_getf rfl rfl (by decide) (FW_1 S hW) rfl ?_
      refine q_iload_n rfl rfl rfl ?_
      refine q_iald rfl rfl (by decide) (FW_2 S hW) (by decide) (q_tn (z := 0) rfl ?_)
      refine q_nS3 rfl rfl (Or.inl rfl) rfl rfl ⟨rfl, rfl⟩ rfl ?_
      change PQ _ _ _ mm_X0_withPlace 0 [.long 0, pm_un, .int 1, .int 0, pm_un] [] _ _ 0 0 _
      refine q_bipush rfl rfl ?_
      refine q_iconst rfl rfl ?_
      refine q_iload_n rfl rfl rfl ?_
      refine q_imul rfl rfl (q_tn (z := 4) rfl ?_)
      refine q_iadd rfl rfl (q_tn (z := 40) rfl ?_)
      refine q_ist4 rfl rfl rfl rfl ?_
      refine q_lload_n rfl rfl rfl ?_
      refine q_ldc2 rfl rfl ?_
      refine q_iload rfl rfl rfl ?_
      refine q_lshl rfl rfl (q_tnl (z := 16492674416640) rfl ?_)
      refine q_ldc2 rfl rfl ?_
      refine q_lxor rfl rfl (q_tnl (z := (-16492674416641)) rfl ?_)
      refine q_land rfl rfl (q_tnl (z := 0) rfl ?_)
      refine q_iload_n rfl rfl rfl ?_
      refine q_i2l rfl rfl (q_tnl (z := 0) rfl ?_)
      refine q_iload rfl rfl rfl ?_
      refine q_lshl rfl rfl (q_tnl (z := 0) rfl ?_)
      refine q_lor rfl rfl (q_tnl (z := 0) rfl ?_)
      refine q_lret rfl rfl trivial ?_
      refine ⟨_, rfl, ?_⟩
      refine q_lst1n rfl rfl rfl rfl ?_
      refine q_icc3 (z := 2) rfl rfl rfl rfl rfl ?_
      refine q_goto rfl ?_
      refine q_iload_n rfl rfl rfl ?_
      refine q_iconst rfl rfl ?_
      refine q_icge rfl rfl (fun c216 => absurd c216 (by decide)) (fun c216 => ?_)
      refine q_lload_n rfl rfl rfl ?_
      refine q_iload_n rfl rfl rfl ?_
      refine q_aload_n rfl rfl rfl ?_
      refine q_getf rfl rfl (by decide) rfl rfl ?_
      refine q_getf rfl rfl (by decide) (FW_1 S hW) rfl ?_
      refine q_iload_n rfl rfl rfl ?_
      refine q_iald rfl rfl (by decide) (FW_2 S hW) (by decide) (q_tn (z := 0) rfl ?_)
      refine q_nS3 rfl rfl (Or.inl rfl) rfl rfl ⟨rfl, rfl⟩ rfl ?_
      change PQ _ _ _ mm_X0_withPlace 0 [.long 0, pm_un, .int 2, .int 0, pm_un] [] _ _ 0 0 _
      refine q_bipush rfl rfl ?_
      refine q_iconst rfl rfl ?_
      refine q_iload_n rfl rfl rfl ?_
      refine q_imul rfl rfl (q_tn (z := 8) rfl ?_)
      refine q_iadd rfl rfl (q_tn (z := 44) rfl ?_)
      refine q_ist4 rfl rfl rfl rfl ?_
      refine q_lload_n rfl rfl rfl ?_
      refine q_ldc2 rfl rfl ?_
      refine q_iload rfl rfl rfl ?_
      refine q_lshl rfl rfl (q_tnl (z := 263882790666240) rfl ?_)
      refine q_ldc2 rfl rfl ?_
      refine q_lxor rfl rfl (q_tnl (z := (-263882790666241)) rfl ?_)
      refine q_land rfl rfl (q_tnl (z := 0) rfl ?_)
      refine q_iload_n rfl rfl rfl ?_
      refine q_i2l rfl rfl (q_tnl (z := 0) rfl ?_)
      refine q_iload rfl rfl rfl ?_
      refine q_lshl rfl rfl (q_tnl (z := 0) rfl ?_)
      refine q_lor rfl rfl (q_tnl (z := 0) rfl ?_)
      refine q_lret rfl rfl trivial ?_
      refine ⟨_, rfl, ?_⟩
      refine q_lst1n rfl rfl rfl rfl ?_
      refine q_icc3 (z := 3) rfl rfl rfl rfl rfl ?_
      refine q_goto rfl ?_
      refine q_iload_n rfl rfl rfl ?_
      refine q_iconst rfl rfl ?_
      refine q_icge rfl rfl (fun c217 => absurd c217 (by decide)) (fun c217 => ?_)
      refine q_lload_n rfl rfl rfl ?_
      refine q_iload_n rfl rfl rfl ?_
      refine q_aload_n rfl rfl rfl ?_
      refine q_getf rfl rfl (by decide) rfl rfl ?_
      refine q_getf rfl rfl (by decide) (FW_1 S hW) rfl ?_
      refine q_iload_n rfl rfl rfl ?_
      refine q_iald rfl rfl (by decide) (FW_2 S hW) (by decide) (q_tn (z := 0) rfl ?_)
      refine q_nS3 rfl rfl (Or.inl rfl) rfl rfl ⟨rfl, rfl⟩ rfl ?_
      change PQ _ _ _ mm_X0_withPlace 0 [.long 0, pm_un, .int 3, .int 0, pm_un] [] _ _ 0 0 _
      refine q_bipush rfl rfl ?_
      refine q_iconst rfl rfl ?_
      refine q_iload_n rfl rfl rfl ?_
      refine q_imul rfl rfl (q_tn (z := 12) rfl ?_)
      refine q_iadd rfl rfl (q_tn (z := 48) rfl ?_)
      refine q_ist4 rfl rfl rfl rfl ?_
      refine q_lload_n rfl rfl rfl ?_
      refine q_ldc2 rfl rfl ?_
      refine q_iload rfl rfl rfl ?_
      refine q_lshl rfl rfl (q_tnl (z := 4222124650659840) rfl ?_)
      refine q_ldc2 rfl rfl ?_
      refine q_lxor rfl rfl (q_tnl (z := (-4222124650659841)) rfl ?_)
      refine q_land rfl rfl (q_tnl (z := 0) rfl ?_)
      refine q_iload_n rfl rfl rfl ?_
      refine q_i2l rfl rfl (q_tnl (z := 0) rfl ?_)
      refine q_iload rfl rfl rfl ?_
      refine q_lshl rfl rfl (q_tnl (z := 0) rfl ?_)
      refine q_lor rfl rfl (q_tnl (z := 0) rfl ?_)
      refine q_lret rfl rfl trivial ?_
      refine ⟨_, rfl, ?_⟩
      refine q_lst1n rfl rfl rfl rfl ?_
      refine q_icc3 (z := 4) rfl rfl rfl rfl rfl ?_
      refine q_goto rfl ?_
      refine q_iload_n rfl rfl rfl ?_
      refine q_iconst rfl rfl ?_
      refine q_icge rfl rfl (fun c218 => ?_) (fun c218 => absurd (by decide) c218)
      refine q_lload_n rfl rfl rfl ?_
      refine q_lret rfl rfl trivial ?_
      refine ⟨_, rfl, ?_⟩
      refine q_iconst rfl rfl ?_
      refine q_iconst rfl rfl ?_
      refine q_nV3 rfl rfl (Or.inl rfl) rfl rfl rfl (by decide) rfl ⟨rfl, rfl⟩ rfl ?_
      change PQ _ _ _ mm_X7_numberOf 0 [.ref 16, .long 0, pm_un, .int (-1), .int (-1), pm_un, pm_un, pm_un] [] _ _ 0 0 _
      refine q_lload_n rfl rfl rfl ?_
      refine q_ldc2 rfl rfl ?_
      refine q_lmul rfl rfl (q_tnl (z := 0) rfl ?_)
      refine q_bipush rfl rfl ?_
      refine q_lushr rfl rfl (q_tnl (z := 0) rfl ?_)
      refine q_l2i rfl rfl (q_tn (z := 0) rfl ?_)
      refine q_sipush rfl rfl ?_
      refine q_iand rfl rfl (q_tn (z := 0) rfl ?_)
      refine q_ist5 rfl rfl rfl rfl ?_
      refine q_iconst rfl rfl ?_
      refine q_ist6 rfl rfl rfl rfl ?_
      refine q_iload rfl rfl rfl ?_
      refine q_sipush rfl rfl ?_
      refine q_icge rfl rfl (fun c219 => absurd c219 (by decide)) (fun c219 => ?_)
      refine q_aload_n rfl rfl rfl ?_
      refine q_getf rfl rfl (by decide) rfl rfl ?_
      refine q_iload rfl rfl rfl ?_
      refine q_iald rfl rfl (by decide) rfl (by decide) (q_tn (z := 0) rfl ?_)
      refine q_iconst rfl rfl ?_
      refine q_isub rfl rfl (q_tn (z := (-1)) rfl ?_)
      refine q_ist7 rfl rfl rfl rfl ?_
      refine q_iload rfl rfl rfl ?_
      refine q_ifge rfl rfl (fun c220 => absurd c220 (by decide)) (fun c220 => ?_)
      refine q_aload_n rfl rfl rfl ?_
      refine q_lload_n rfl rfl rfl ?_
      refine q_iload rfl rfl rfl ?_
      refine q_iload_n rfl rfl rfl ?_
      refine q_iload rfl rfl rfl ?_
      refine q_nV4 rfl rfl (Or.inl rfl) rfl rfl rfl (by decide) rfl ⟨rfl, rfl⟩ rfl ?_
      change PQ _ _ _ mm_X7_newNumber 0 [.ref 16, .long 0, pm_un, .int 0, .int (-1), .int (-1), pm_un] [] _ _ 0 0 _
      refine q_aload_n rfl rfl rfl ?_
      refine q_getf rfl rfl (by decide) rfl rfl ?_
      refine q_sipush rfl rfl ?_
      refine q_iclt rfl rfl (fun c221 => ?_) (fun c221 => absurd (by decide) c221)
      refine q_aload_n rfl rfl rfl ?_
      refine q_dupr rfl rfl ?_
      refine q_getf rfl rfl (by decide) rfl rfl ?_
      refine q_dupx1 rfl rfl ?_
      refine q_iconst rfl rfl ?_
      refine q_iadd rfl rfl (q_tn (z := 1) rfl ?_)
      refine q_putf rfl rfl (by decide) rfl (by decide) rfl trivial ?_
      refine q_ist6 rfl rfl rfl rfl ?_
      refine q_aload_n rfl rfl rfl ?_
      refine q_getf rfl rfl (by decide) rfl rfl ?_
      refine q_iload rfl rfl rfl ?_
      refine q_lload_n rfl rfl rfl ?_
      refine q_last rfl rfl (by decide) rfl (by decide) ?_
      refine q_aload_n rfl rfl rfl ?_
      refine q_getf rfl rfl (by decide) rfl rfl ?_
      refine q_iload rfl rfl rfl ?_
      refine q_iload rfl rfl rfl ?_
      refine q_iast rfl rfl (by decide) rfl (by decide) ?_
      refine q_aload_n rfl rfl rfl ?_
      refine q_getf rfl rfl (by decide) rfl rfl ?_
      refine q_iload rfl rfl rfl ?_
      refine q_iload rfl rfl rfl ?_
      refine q_iast rfl rfl (by decide) rfl (by decide) ?_
      refine q_aload_n rfl rfl rfl ?_
      refine q_getf rfl rfl (by decide) rfl rfl ?_
      refine q_iload rfl rfl rfl ?_
      refine q_iload_n rfl rfl rfl ?_
      refine q_iast rfl rfl (by decide) rfl (by decide) ?_
      refine q_aload_n rfl rfl rfl ?_
      refine q_getf rfl rfl (by decide) rfl rfl ?_
      refine q_iload_n rfl rfl rfl ?_
      refine q_iload rfl rfl rfl ?_
      refine q_iconst rfl rfl ?_
      refine q_iadd rfl rfl (q_tn (z := 1) rfl ?_)
      refine q_iast rfl rfl (by decide) rfl (by decide) ?_
      refine q_iload rfl rfl rfl ?_
      refine q_iret rfl rfl trivial ?_
      refine ⟨_, rfl, ?_⟩
      refine q_iret rfl rfl trivial ?_
      refine ⟨_, rfl, ?_⟩
      refine q_pop rfl rfl ?_
      refine q_iconst rfl rfl ?_
      refine q_ist3n rfl rfl rfl rfl ?_
      refine q_iload_n rfl rfl rfl ?_
      refine q_sipush rfl rfl ?_
      refine q_icge rfl rfl (fun c222 => absurd c222 (by decide)) (fun c222 => ?_)
      refine q_iload_n rfl rfl rfl ?_
      refine q_aload_n rfl rfl rfl ?_
      refine q_getf rfl rfl (by decide) rfl rfl ?_
      refine q_icge rfl rfl (fun c223 => absurd c223 (by decide)) (fun c223 => ?_)
      refine q_aload_n rfl rfl rfl ?_
      refine q_aload_n rfl rfl rfl ?_
      refine q_iload_n rfl rfl rfl ?_
      refine q_nV2v rfl rfl (Or.inl rfl) rfl rfl rfl (by decide) rfl ⟨rfl, rfl⟩ rfl ?_
      change PQ _ _ _ mm_X7_lookAt 0 [.ref 16, .ref 7, .int 0, pm_un, pm_un, pm_un, pm_un, pm_un, pm_un, pm_un] [] _ _ 0 0 _
      refine q_aload_n rfl rfl rfl ?_
      refine q_getf rfl rfl (by decide) rfl rfl ?_
      refine q_iload_n rfl rfl rfl ?_
      refine q_lald rfl rfl (by decide) rfl (by decide) (q_tnl (z := 0) rfl ?_)
      refine q_lst3n rfl rfl rfl rfl ?_
      refine q_aload_n rfl rfl rfl ?_
      refine q_aload_n rfl rfl rfl ?_
      refine q_lload_n rfl rfl rfl ?_
      refine q_nV1 rfl rfl (Or.inl rfl) rfl rfl rfl (by decide) rfl ⟨rfl, rfl⟩ rfl ?_
      change PQ _ _ _ mm_X6_ableHands 0 [.ref 7, .long 0, pm_un, pm_un, pm_un, pm_un] [] _ _ 0 0 _
      refine q_aload_n rfl rfl rfl ?_
      refine q_lload_n rfl rfl rfl ?_
      refine q_nV1 rfl rfl (Or.inl rfl) rfl rfl rfl (by decide) rfl ⟨rfl, rfl⟩ rfl ?_
      change PQ _ _ _ mm_X6_allMeet 0 [.ref 7, .long 0, pm_un, pm_un, pm_un] [] _ _ 0 0 _
      refine q_iconst rfl rfl ?_
      refine q_ist3n rfl rfl rfl rfl ?_
      refine q_iload_n rfl rfl rfl ?_
      refine q_aload_n rfl rfl rfl ?_
      refine q_getf rfl rfl (by decide) rfl rfl ?_
      refine q_getf rfl rfl (by decide) (FW_1 S hW) rfl ?_
      refine q_icge rfl rfl (fun c224 => absurd c224 (by decide)) (fun c224 => ?_)
      refine q_aload_n rfl rfl rfl ?_
      refine q_getf rfl rfl (by decide) rfl rfl ?_
      refine q_iload_n rfl rfl rfl ?_
      refine q_lload_n rfl rfl rfl ?_
      refine q_iload_n rfl rfl rfl ?_
      refine q_nS2 rfl rfl (Or.inl rfl) rfl rfl ⟨rfl, rfl⟩ rfl ?_
      change PQ _ _ _ mm_X0_position 0 [.long 0, pm_un, .int 0] [] _ _ 0 0 _
      refine q_lload_n rfl rfl rfl ?_
      refine q_bipush rfl rfl ?_
      refine q_iload_n rfl rfl rfl ?_
      refine q_imul rfl rfl (q_tn (z := 0) rfl ?_)
      refine q_lushr rfl rfl (q_tnl (z := 0) rfl ?_)
      refine q_l2i rfl rfl (q_tn (z := 0) rfl ?_)
      refine q_bipush rfl rfl ?_
      refine q_iand rfl rfl (q_tn (z := 0) rfl ?_)
      refine q_iret rfl rfl trivial ?_
      refine ⟨_, rfl, ?_⟩
      refine q_nV2 rfl rfl (Or.inl rfl) rfl rfl rfl (by decide) (FW_1 S hW) ⟨rfl, rfl⟩ rfl ?_
      change PQ _ _ _ mm_X8_cellOf 0 [.ref 1, .int 0, .int 0, pm_un] [] _ _ 0 0 _
      refine q_iload_n rfl rfl rfl ?_
      refine q_iflt rfl rfl (fun c225 => absurd c225 (by decide)) (fun c225 => ?_)
      refine q_iload_n rfl rfl rfl ?_
      refine q_aload_n rfl rfl rfl ?_
      refine q_getf rfl rfl (by decide) (FW_1 S hW) rfl ?_
      refine q_icge rfl rfl (fun c226 => absurd c226 (by decide)) (fun c226 => ?_)
      refine q_iload_n rfl rfl rfl ?_
      refine q_iflt rfl rfl (fun c227 => absurd c227 (by decide)) (fun c227 => ?_)
      refine q_iload_n rfl rfl rfl ?_
      refine q_aload_n rfl rfl rfl ?_
      refine q_getf rfl rfl (by decide) (FW_1 S hW) rfl ?_
      refine q_iload_n rfl rfl rfl ?_
      refine q_iald rfl rfl (by decide) (FW_3 S hW) (by decide) (q_tn (z := 0) rfl ?_)
      refine q_icge rfl rfl (fun c228 => ?_) (fun c228 => absurd (by decide) c228)
      refine q_iconst rfl rfl ?_
      refine q_ist3n rfl rfl rfl rfl ?_
      refine q_iload_n rfl rfl rfl ?_
      refine q_ifeq rfl rfl (fun c229 => ?_) (fun c229 => absurd (by decide) c229)
      refine q_iconst rfl rfl ?_
      refine q_iret rfl rfl trivial ?_
      refine ⟨_, rfl, ?_⟩
      refine q_ist4 rfl rfl rfl rfl ?_
      refine q_iload rfl rfl rfl ?_
      refine q_iflt rfl rfl (fun c230 => ?_) (fun c230 => absurd (by decide) c230)
      refine q_icc3 (z := 1) rfl rfl rfl rfl rfl ?_
      refine q_goto rfl ?_
      refine q_iload_n rfl rfl rfl ?_
      refine q_aload_n rfl rfl rfl ?_
      refine q_getf rfl rfl (by decide) rfl rfl ?_
      refine q_getf rfl rfl (by decide) (FW_1 S hW) rfl ?_
      refine q_icge rfl rfl (fun c231 => ?_) (fun c231 => absurd (by decide) c231)
      refine q_iconst rfl rfl ?_
      refine q_iret rfl rfl rfl ?_
      refine ⟨_, rfl, ?_⟩
      refine q_ist3n rfl rfl rfl rfl ?_
      refine q_iconst rfl rfl ?_
      refine q_ist4 rfl rfl rfl rfl ?_
      refine q_iconst rfl rfl ?_
      refine q_ist5 rfl rfl rfl rfl ?_
      refine q_iload rfl rfl rfl ?_
      refine q_aload_n rfl rfl rfl ?_
      refine q_getf rfl rfl (by decide) rfl rfl ?_
      refine q_getf rfl rfl (by decide) (FW_1 S hW) rfl ?_
      refine q_icge rfl rfl (fun c232 => absurd c232 (by decide)) (fun c232 => ?_)
      refine q_aload_n rfl rfl rfl ?_
      refine q_lload_n rfl rfl rfl ?_
      refine q_iload rfl rfl rfl ?_
      refine q_iload_n rfl rfl rfl ?_
      refine q_nV3 rfl rfl (Or.inl rfl) rfl rfl rfl (by decide) rfl ⟨rfl, rfl⟩ rfl ?_
      change PQ _ _ _ mm_X6_isAble 0 [.ref 7, .long 0, pm_un, .int 0, .int 1, pm_un, pm_un, pm_un] [] _ _ 0 0 _
      refine q_aload_n rfl rfl rfl ?_
      refine q_getf rfl rfl (by decide) rfl rfl ?_
      refine q_iload_n rfl rfl rfl ?_
      refine q_lload_n rfl rfl rfl ?_
      refine q_iload_n rfl rfl rfl ?_
      refine q_nS2 rfl rfl (Or.inl rfl) rfl rfl ⟨rfl, rfl⟩ rfl ?_
      change PQ _ _ _ mm_X0_position 0 [.long 0, pm_un, .int 0] [] _ _ 0 0 _
      refine q_lload_n rfl rfl rfl ?_
      refine q_bipush rfl rfl ?_
      refine q_iload_n rfl rfl rfl ?_
      refine q_imul rfl rfl (q_tn (z := 0) rfl ?_)
      refine q_lushr rfl rfl (q_tnl (z := 0) rfl ?_)
      refine q_l2i rfl rfl (q_tn (z := 0) rfl ?_)
      refine q_bipush rfl rfl ?_
      refine q_iand rfl rfl (q_tn (z := 0) rfl ?_)
      refine q_iret rfl rfl trivial ?_
      refine ⟨_, rfl, ?_⟩
      refine q_nV2 rfl rfl (Or.inl rfl) rfl rfl rfl (by decide) (FW_1 S hW) ⟨rfl, rfl⟩ rfl ?_
      change PQ _ _ _ mm_X8_cellOf 0 [.ref 1, .int 0, .int 0, pm_un] [] _ _ 0 0 _
      refine q_iload_n rfl rfl rfl ?_
      refine q_iflt rfl rfl (fun c233 => absurd c233 (by decide)) (fun c233 => ?_)
      refine q_iload_n rfl rfl rfl ?_
      refine q_aload_n rfl rfl rfl ?_
      refine q_getf rfl rfl (by decide) (FW_1 S hW) rfl ?_
      refine q_icge rfl rfl (fun c234 => absurd c234 (by decide)) (fun c234 => ?_)
      refine q_iload_n rfl rfl rfl ?_
      refine q_iflt rfl rfl (fun c235 => absurd c235 (by decide)) (fun c235 => ?_)
      refine q_iload_n rfl rfl rfl ?_
      refine q_aload_n rfl rfl rfl ?_
      refine q_getf rfl rfl (by decide) (FW_1 S hW) rfl ?_
      refine q_iload_n rfl rfl rfl ?_
      refine q_iald rfl rfl (by decide) (FW_3 S hW) (by decide) (q_tn (z := 0) rfl ?_)
      refine q_icge rfl rfl (fun c236 => ?_) (fun c236 => absurd (by decide) c236)
      refine q_iconst rfl rfl ?_
      refine q_ist3n rfl rfl rfl rfl ?_
      refine q_iload_n rfl rfl rfl ?_
      refine q_ifeq rfl rfl (fun c237 => ?_) (fun c237 => absurd (by decide) c237)
      refine q_iconst rfl rfl ?_
      refine q_iret rfl rfl trivial ?_
      refine ⟨_, rfl, ?_⟩
      refine q_ist5 rfl rfl rfl rfl ?_
      refine q_iload rfl rfl rfl ?_
      refine q_ifge rfl rfl (fun c238 => absurd c238 (by decide)) (fun c238 => ?_)
      refine q_iconst rfl rfl ?_
      refine q_iret rfl rfl rfl ?_
      refine ⟨_, rfl, ?_⟩
      refine q_ifeq rfl rfl (fun c239 => ?_) (fun c239 => absurd (by decide) c239)
      refine q_icc5 (z := 1) rfl rfl rfl rfl rfl ?_
      refine q_goto rfl ?_
      refine q_iload rfl rfl rfl ?_
      refine q_aload_n rfl rfl rfl ?_
      refine q_getf rfl rfl (by decide) rfl rfl ?_
      refine q_getf rfl rfl (by decide) (FW_1 S hW) rfl ?_
      refine q_icge rfl rfl (fun c240 => ?_) (fun c240 => absurd (by decide) c240)
      refine q_iload rfl rfl rfl ?_
      refine q_iret rfl rfl trivial ?_
      refine ⟨_, rfl, ?_⟩
      refine q_lload_n rfl rfl rfl ?_
      refine q_nS1 rfl rfl (Or.inl rfl) rfl rfl ⟨rfl, rfl⟩ rfl ?_
      change PQ _ _ _ mm_X0_last 0 [.long 0, pm_un] [] _ _ 0 0 _
      refine q_lload_n rfl rfl rfl ?_
      refine q_bipush rfl rfl ?_
      refine q_lushr rfl rfl (q_tnl (z := 0) rfl ?_)
      refine q_l2i rfl rfl (q_tn (z := 0) rfl ?_)
      refine q_iconst rfl rfl ?_
      refine q_iand rfl rfl (q_tn (z := 0) rfl ?_)
      refine q_iconst rfl rfl ?_
      refine q_isub rfl rfl (q_tn (z := (-1)) rfl ?_)
      refine q_iret rfl rfl trivial ?_
      refine ⟨_, rfl, ?_⟩
      refine q_nV2 rfl rfl (Or.inl rfl) rfl rfl rfl (by decide) rfl ⟨rfl, rfl⟩ rfl ?_
      change PQ _ _ _ mm_X6_chosenHands 0 [.ref 7, .int 0, .int (-1), pm_un, pm_un] [] _ _ 0 0 _
      refine q_aload_n rfl rfl rfl ?_
      refine q_getf rfl rfl (by decide) rfl rfl ?_
      refine q_iconst rfl rfl ?_
      refine q_icne rfl rfl (fun c241 => absurd c241 (by decide)) (fun c241 => ?_)
      refine q_aload_n rfl rfl rfl ?_
      refine q_getf rfl rfl (by decide) rfl rfl ?_
      refine q_iconst rfl rfl ?_
      refine q_iceq rfl rfl (fun c242 => absurd c242 (by decide)) (fun c242 => ?_)
      refine q_iload_n rfl rfl rfl ?_
      refine q_iret rfl rfl trivial ?_
      refine ⟨_, rfl, ?_⟩
      refine q_ist5 rfl rfl rfl rfl ?_
      refine q_iconst rfl rfl ?_
      refine q_ist6 rfl rfl rfl rfl ?_
      refine q_iload rfl rfl rfl ?_
      refine q_iconst rfl rfl ?_
      refine q_icge rfl rfl (fun c243 => absurd c243 (by decide)) (fun c243 => ?_)
      refine q_iconst rfl rfl ?_
      refine q_ist7 rfl rfl rfl rfl ?_
      refine q_iload rfl rfl rfl ?_
      refine q_iload rfl rfl rfl ?_
      refine q_iushr rfl rfl (q_tn (z := 0) rfl ?_)
      refine q_iconst rfl rfl ?_
      refine q_iand rfl rfl (q_tn (z := 0) rfl ?_)
      refine q_ifeq rfl rfl (fun c244 => ?_) (fun c244 => absurd (by decide) c244)
      refine q_aload_n rfl rfl rfl ?_
      refine q_getf rfl rfl (by decide) rfl rfl ?_
      refine q_iload_n rfl rfl rfl ?_
      refine q_iconst rfl rfl ?_
      refine q_imul rfl rfl (q_tn (z := 0) rfl ?_)
      refine q_iload rfl rfl rfl ?_
      refine q_iadd rfl rfl (q_tn (z := 0) rfl ?_)
      refine q_iload rfl rfl rfl ?_
      refine q_iast rfl rfl (by decide) rfl (by decide) ?_
      refine q_icc6 (z := 1) rfl rfl rfl rfl rfl ?_
      refine q_goto rfl ?_
      refine q_iload rfl rfl rfl ?_
      refine q_iconst rfl rfl ?_
      refine q_icge rfl rfl (fun c245 => absurd c245 (by decide)) (fun c245 => ?_)
      refine q_iconst rfl rfl ?_
      refine q_ist7 rfl rfl rfl rfl ?_
      refine q_iload rfl rfl rfl ?_
      refine q_iload rfl rfl rfl ?_
      refine q_iushr rfl rfl (q_tn (z := 0) rfl ?_)
      refine q_iconst rfl rfl ?_
      refine q_iand rfl rfl (q_tn (z := 0) rfl ?_)
      refine q_ifeq rfl rfl (fun c246 => ?_) (fun c246 => absurd (by decide) c246)
      refine q_aload_n rfl rfl rfl ?_
      refine q_getf rfl rfl (by decide) rfl rfl ?_
      refine q_iload_n rfl rfl rfl ?_
      refine q_iconst rfl rfl ?_
      refine q_imul rfl rfl (q_tn (z := 0) rfl ?_)
      refine q_iload rfl rfl rfl ?_
      refine q_iadd rfl rfl (q_tn (z := 1) rfl ?_)
      refine q_iload rfl rfl rfl ?_
      refine q_iast rfl rfl (by decide) rfl (by decide) ?_
      refine q_icc6 (z := 2) rfl rfl rfl rfl rfl ?_
      refine q_goto rfl ?_
      refine q_iload rfl rfl rfl ?_
      refine q_iconst rfl rfl ?_
      refine q_icge rfl rfl (fun c247 => absurd c247 (by decide)) (fun c247 => ?_)
      refine q_iconst rfl rfl ?_
      refine q_ist7 rfl rfl rfl rfl ?_
      refine q_iload rfl rfl rfl ?_
      refine q_iload rfl rfl rfl ?_
      refine q_iushr rfl rfl (q_tn (z := 0) rfl ?_)
      refine q_iconst rfl rfl ?_
      refine q_iand rfl rfl (q_tn (z := 0) rfl ?_)
      refine q_ifeq rfl rfl (fun c248 => ?_) (fun c248 => absurd (by decide) c248)
      refine q_aload_n rfl rfl rfl ?_
      refine q_getf rfl rfl (by decide) rfl rfl ?_
      refine q_iload_n rfl rfl rfl ?_
      refine q_iconst rfl rfl ?_
      refine q_imul rfl rfl (q_tn (z := 0) rfl ?_)
      refine q_iload rfl rfl rfl ?_
      refine q_iadd rfl rfl (q_tn (z := 2) rfl ?_)
      refine q_iload rfl rfl rfl ?_
      refine q_iast rfl rfl (by decide) rfl (by decide) ?_
      refine q_icc6 (z := 3) rfl rfl rfl rfl rfl ?_
      refine q_goto rfl ?_
      refine q_iload rfl rfl rfl ?_
      refine q_iconst rfl rfl ?_
      refine q_icge rfl rfl (fun c249 => ?_) (fun c249 => absurd (by decide) c249)
      refine q_aload_n rfl rfl rfl ?_
      refine q_getf rfl rfl (by decide) rfl rfl ?_
      refine q_iload_n rfl rfl rfl ?_
      refine q_iload rfl rfl rfl ?_
      refine q_ifeq rfl rfl (fun c250 => ?_) (fun c250 => absurd (by decide) c250)
      refine q_aload_n rfl rfl rfl ?_
      refine q_lload_n rfl rfl rfl ?_
      refine q_nV1 rfl rfl (Or.inl rfl) rfl rfl rfl (by decide) rfl ⟨rfl, rfl⟩ rfl ?_
      change PQ _ _ _ mm_X6_isEnd 0 [.ref 7, .long 0, pm_un, pm_un] [] _ _ 0 0 _
      refine q_iconst rfl rfl ?_
      refine q_ist3n rfl rfl rfl rfl ?_
      refine q_iload_n rfl rfl rfl ?_
      refine q_aload_n rfl rfl rfl ?_
      refine q_getf rfl rfl (by decide) rfl rfl ?_
      refine q_getf rfl rfl (by decide) (FW_1 S hW) rfl ?_
      refine q_icge rfl rfl (fun c251 => absurd c251 (by decide)) (fun c251 => ?_)
      refine q_aload_n rfl rfl rfl ?_
      refine q_getf rfl rfl (by decide) rfl rfl ?_
      refine q_iload_n rfl rfl rfl ?_
      refine q_lload_n rfl rfl rfl ?_
      refine q_iload_n rfl rfl rfl ?_
      refine q_nS2 rfl rfl (Or.inl rfl) rfl rfl ⟨rfl, rfl⟩ rfl ?_
      change PQ _ _ _ mm_X0_position 0 [.long 0, pm_un, .int 0] [] _ _ 0 0 _
      refine q_lload_n rfl rfl rfl ?_
      refine q_bipush rfl rfl ?_
      refine q_iload_n rfl rfl rfl ?_
      refine q_imul rfl rfl (q_tn (z := 0) rfl ?_)
      refine q_lushr rfl rfl (q_tnl (z := 0) rfl ?_)
      refine q_l2i rfl rfl (q_tn (z := 0) rfl ?_)
      refine q_bipush rfl rfl ?_
      refine q_iand rfl rfl (q_tn (z := 0) rfl ?_)
      refine q_iret rfl rfl trivial ?_
      refine ⟨_, rfl, ?_⟩
      refine q_nV2 rfl rfl (Or.inl rfl) rfl rfl rfl (by decide) (FW_1 S hW) ⟨rfl, rfl⟩ rfl ?_
      change PQ _ _ _ mm_X8_cellOf 0 [.ref 1, .int 0, .int 0, pm_un] [] _ _ 0 0 _
      refine q_iload_n rfl rfl rfl ?_
      refine q_iflt rfl rfl (fun c252 => absurd c252 (by decide)) (fun c252 => ?_)
      refine q_iload_n rfl rfl rfl ?_
      refine q_aload_n rfl rfl rfl ?_
      refine q_getf rfl rfl (by decide) (FW_1 S hW) rfl ?_
      refine q_icge rfl rfl (fun c253 => absurd c253 (by decide)) (fun c253 => ?_)
      refine q_iload_n rfl rfl rfl ?_
      refine q_iflt rfl rfl (fun c254 => absurd c254 (by decide)) (fun c254 => ?_)
      refine q_iload_n rfl rfl rfl ?_
      refine q_aload_n rfl rfl rfl ?_
      refine q_getf rfl rfl (by decide) (FW_1 S hW) rfl ?_
      refine q_iload_n rfl rfl rfl ?_
      refine q_iald rfl rfl (by decide) (FW_3 S hW) (by decide) (q_tn (z := 0) rfl ?_)
      refine q_icge rfl rfl (fun c255 => ?_) (fun c255 => absurd (by decide) c255)
      refine q_iconst rfl rfl ?_
      refine q_ist3n rfl rfl rfl rfl ?_
      refine q_iload_n rfl rfl rfl ?_
      refine q_ifeq rfl rfl (fun c256 => ?_) (fun c256 => absurd (by decide) c256)
      refine q_iconst rfl rfl ?_
      refine q_iret rfl rfl trivial ?_
      refine ⟨_, rfl, ?_⟩
      refine q_iflt rfl rfl (fun c257 => ?_) (fun c257 => absurd (by decide) c257)
      refine q_icc3 (z := 1) rfl rfl rfl rfl rfl ?_
      refine q_goto rfl ?_
      refine q_iload_n rfl rfl rfl ?_
      refine q_aload_n rfl rfl rfl ?_
      refine q_getf rfl rfl (by decide) rfl rfl ?_
      refine q_getf rfl rfl (by decide) (FW_1 S hW) rfl ?_
      refine q_icge rfl rfl (fun c258 => ?_) (fun c258 => absurd (by decide) c258)
      refine q_iconst rfl rfl ?_
      refine q_iret rfl rfl rfl ?_
      refine ⟨_, rfl, ?_⟩
      refine q_ifeq rfl rfl (fun c259 => absurd c259 (by decide)) (fun c259 => ?_)
      refine q_iconst rfl rfl ?_
      refine q_goto rfl ?_
      refine q_iast rfl rfl (by decide) rfl (by decide) ?_
      refine q_aload_n rfl rfl rfl ?_
      refine q_dupr rfl rfl ?_
      refine q_getf rfl rfl (by decide) rfl rfl ?_
      refine q_aload_n rfl rfl rfl ?_
      refine q_getf rfl rfl (by decide) rfl rfl ?_
      refine q_iload_n rfl rfl rfl ?_
      refine q_iald rfl rfl (by decide) rfl (by decide) (q_tn (z := 1) rfl ?_)
      refine q_iconst rfl rfl ?_
      refine q_iceq rfl rfl (fun c260 => absurd c260 (by decide)) (fun c260 => ?_)
      refine q_aload_n rfl rfl rfl ?_
      refine q_lload_n rfl rfl rfl ?_
      refine q_nV1 rfl rfl (Or.inl rfl) rfl rfl rfl (by decide) rfl ⟨rfl, rfl⟩ rfl ?_
      change PQ _ _ _ mm_X6_someFailed 0 [.ref 7, .long 0, pm_un, pm_un] [] _ _ 0 0 _
      refine q_iconst rfl rfl ?_
      refine q_ist3n rfl rfl rfl rfl ?_
      refine q_iload_n rfl rfl rfl ?_
      refine q_aload_n rfl rfl rfl ?_
      refine q_getf rfl rfl (by decide) rfl rfl ?_
      refine q_getf rfl rfl (by decide) (FW_1 S hW) rfl ?_
      refine q_icge rfl rfl (fun c261 => absurd c261 (by decide)) (fun c261 => ?_)
      refine q_lload_n rfl rfl rfl ?_
      refine q_iload_n rfl rfl rfl ?_
      refine q_nS2 rfl rfl (Or.inl rfl) rfl rfl ⟨rfl, rfl⟩ rfl ?_
      change PQ _ _ _ mm_X0_position 0 [.long 0, pm_un, .int 0] [] _ _ 0 0 _
      refine q_lload_n rfl rfl rfl ?_
      refine q_bipush rfl rfl ?_
      refine q_iload_n rfl rfl rfl ?_
      refine q_imul rfl rfl (q_tn (z := 0) rfl ?_)
      refine q_lushr rfl rfl (q_tnl (z := 0) rfl ?_)
      refine q_l2i rfl rfl (q_tn (z := 0) rfl ?_)
      refine q_bipush rfl rfl ?_
      refine q_iand rfl rfl (q_tn (z := 0) rfl ?_)
      refine q_iret rfl rfl trivial ?_
      refine ⟨_, rfl, ?_⟩
      refine q_bipush rfl rfl ?_
      refine q_icne rfl rfl (fun c262 => absurd c262 (by decide)) (fun c262 => ?_)
      refine q_icc3 (z := 1) rfl rfl rfl rfl rfl ?_
      refine q_goto rfl ?_
      refine q_iload_n rfl rfl rfl ?_
      refine q_aload_n rfl rfl rfl ?_
      refine q_getf rfl rfl (by decide) rfl rfl ?_
      refine q_getf rfl rfl (by decide) (FW_1 S hW) rfl ?_
      refine q_icge rfl rfl (fun c263 => ?_) (fun c263 => absurd (by decide) c263)
      refine q_iconst rfl rfl ?_
      refine q_iret rfl rfl rfl ?_
      refine ⟨_, rfl, ?_⟩
      refine q_ifeq rfl rfl (fun c264 => ?_) (fun c264 => absurd (by decide) c264)
      refine q_iconst rfl rfl ?_
      refine q_ior rfl rfl (q_tn (z := 0) rfl ?_)
      refine q_putf rfl rfl (by decide) rfl (by decide) rfl rfl ?_
      refine q_aload_n rfl rfl rfl ?_
      refine q_getf rfl rfl (by decide) rfl rfl ?_
      refine q_iload_n rfl rfl rfl ?_
      refine q_iald rfl rfl (by decide) rfl (by decide) (q_tn (z := 1) rfl ?_)
      refine q_iconst rfl rfl ?_
      refine q_icne rfl rfl (fun c265 => ?_) (fun c265 => absurd (by decide) c265)
      refine q_aload_n rfl rfl rfl ?_
      refine q_lload_n rfl rfl rfl ?_
      refine q_nV1v rfl rfl (Or.inl rfl) rfl rfl rfl (by decide) rfl ⟨rfl, rfl⟩ rfl ?_
      change PQ _ _ _ mm_X7_noteEnd 0 [.ref 16, .long 0, pm_un, pm_un] [] _ _ 0 0 _
      refine q_iconst rfl rfl ?_
      refine q_ist3n rfl rfl rfl rfl ?_
      refine q_iload_n rfl rfl rfl ?_
      refine q_iconst rfl rfl ?_
      refine q_icge rfl rfl (fun c266 => absurd c266 (by decide)) (fun c266 => ?_)
      refine q_aload_n rfl rfl rfl ?_
      refine q_dupr rfl rfl ?_
      refine q_getf rfl rfl (by decide) rfl rfl ?_
      refine q_lconst rfl rfl ?_
      refine q_bipush rfl rfl ?_
      refine q_iload_n rfl rfl rfl ?_
      refine q_imul rfl rfl (q_tn (z := 0) rfl ?_)
      refine q_lload_n rfl rfl rfl ?_
      refine q_iload_n rfl rfl rfl ?_
      refine q_nS2 rfl rfl (Or.inl rfl) rfl rfl ⟨rfl, rfl⟩ rfl ?_
      change PQ _ _ _ mm_X0_place 0 [.long 0, pm_un, .int 0] [] _ _ 0 0 _
      refine q_lload_n rfl rfl rfl ?_
      refine q_bipush rfl rfl ?_
      refine q_iconst rfl rfl ?_
      refine q_iload_n rfl rfl rfl ?_
      refine q_imul rfl rfl (q_tn (z := 0) rfl ?_)
      refine q_iadd rfl rfl (q_tn (z := 36) rfl ?_)
      refine q_lushr rfl rfl (q_tnl (z := 0) rfl ?_)
      refine q_l2i rfl rfl (q_tn (z := 0) rfl ?_)
      refine q_bipush rfl rfl ?_
      refine q_iand rfl rfl (q_tn (z := 0) rfl ?_)
      refine q_iret rfl rfl trivial ?_
      refine ⟨_, rfl, ?_⟩
      refine q_iadd rfl rfl (q_tn (z := 0) rfl ?_)
      refine q_lshl rfl rfl (q_tnl (z := 1) rfl ?_)
      refine q_lor rfl rfl (q_tnl (z := 1) rfl ?_)
      refine q_putf rfl rfl (by decide) rfl (by decide) rfl trivial ?_
      refine q_icc3 (z := 1) rfl rfl rfl rfl rfl ?_
      refine q_goto rfl ?_
      refine q_iload_n rfl rfl rfl ?_
      refine q_iconst rfl rfl ?_
      refine q_icge rfl rfl (fun c267 => absurd c267 (by decide)) (fun c267 => ?_)
      refine q_aload_n rfl rfl rfl ?_
      refine q_dupr rfl rfl ?_
      refine q_getf rfl rfl (by decide) rfl rfl ?_
      refine q_lconst rfl rfl ?_
      refine q_bipush rfl rfl ?_
      refine q_iload_n rfl rfl rfl ?_
      refine q_imul rfl rfl (q_tn (z := 10) rfl ?_)
      refine q_lload_n rfl rfl rfl ?_
      refine q_iload_n rfl rfl rfl ?_
      refine q_nS2 rfl rfl (Or.inl rfl) rfl rfl ⟨rfl, rfl⟩ rfl ?_
      change PQ _ _ _ mm_X0_place 0 [.long 0, pm_un, .int 1] [] _ _ 0 0 _
      refine q_lload_n rfl rfl rfl ?_
      refine q_bipush rfl rfl ?_
      refine q_iconst rfl rfl ?_
      refine q_iload_n rfl rfl rfl ?_
      refine q_imul rfl rfl (q_tn (z := 4) rfl ?_)
      refine q_iadd rfl rfl (q_tn (z := 40) rfl ?_)
      refine q_lushr rfl rfl (q_tnl (z := 0) rfl ?_)
      refine q_l2i rfl rfl (q_tn (z := 0) rfl ?_)
      refine q_bipush rfl rfl ?_
      refine q_iand rfl rfl (q_tn (z := 0) rfl ?_)
      refine q_iret rfl rfl trivial ?_
      refine ⟨_, rfl, ?_⟩
      refine q_iadd rfl rfl (q_tn (z := 10) rfl ?_)
      refine q_lshl rfl rfl (q_tnl (z := 1024) rfl ?_)
      refine q_lor rfl rfl (q_tnl (z := 1025) rfl ?_)
      refine q_putf rfl rfl (by decide) rfl (by decide) rfl trivial ?_
      refine q_icc3 (z := 2) rfl rfl rfl rfl rfl ?_
      refine q_goto rfl ?_
      refine q_iload_n rfl rfl rfl ?_
      refine q_iconst rfl rfl ?_
      refine q_icge rfl rfl (fun c268 => absurd c268 (by decide)) (fun c268 => ?_)
      refine q_aload_n rfl rfl rfl ?_
      refine q_dupr rfl rfl ?_
      refine q_getf rfl rfl (by decide) rfl rfl ?_
      refine q_lconst rfl rfl ?_
      refine q_bipush rfl rfl ?_
      refine q_iload_n rfl rfl rfl ?_
      refine q_imul rfl rfl (q_tn (z := 20) rfl ?_)
      refine q_lload_n rfl rfl rfl ?_
      refine q_iload_n rfl rfl rfl ?_
      refine q_nS2 rfl rfl (Or.inl rfl) rfl rfl ⟨rfl, rfl⟩ rfl ?_
      change PQ _ _ _ mm_X0_place 0 [.long 0, pm_un, .int 2] [] _ _ 0 0 _
      refine q_lload_n rfl rfl rfl ?_
      refine q_bipush rfl rfl ?_
      refine q_iconst rfl rfl ?_
      refine q_iload_n rfl rfl rfl ?_
      refine q_imul rfl rfl (q_tn (z := 8) rfl ?_)
      refine q_iadd rfl rfl (q_tn (z := 44) rfl ?_)
      refine q_lushr rfl rfl (q_tnl (z := 0) rfl ?_)
      refine q_l2i rfl rfl (q_tn (z := 0) rfl ?_)
      refine q_bipush rfl rfl ?_
      refine q_iand rfl rfl (q_tn (z := 0) rfl ?_)
      refine q_iret rfl rfl trivial ?_
      refine ⟨_, rfl, ?_⟩
      refine q_iadd rfl rfl (q_tn (z := 20) rfl ?_)
      refine q_lshl rfl rfl (q_tnl (z := 1048576) rfl ?_)
      refine q_lor rfl rfl (q_tnl (z := 1049601) rfl ?_)
      refine q_putf rfl rfl (by decide) rfl (by decide) rfl trivial ?_
      refine q_icc3 (z := 3) rfl rfl rfl rfl rfl ?_
      refine q_goto rfl ?_
      refine q_iload_n rfl rfl rfl ?_
      refine q_iconst rfl rfl ?_
      refine q_icge rfl rfl (fun c269 => absurd c269 (by decide)) (fun c269 => ?_)
      refine q_aload_n rfl rfl rfl ?_
      refine q_dupr rfl rfl ?_
      refine q_getf rfl rfl (by decide) rfl rfl ?_
      refine q_lconst rfl rfl ?_
      refine q_bipush rfl rfl ?_
      refine q_iload_n rfl rfl rfl ?_
      refine q_imul rfl rfl (q_tn (z := 30) rfl ?_)
      refine q_lload_n rfl rfl rfl ?_
      refine q_iload_n rfl rfl rfl ?_
      refine q_nS2 rfl rfl (Or.inl rfl) rfl rfl ⟨rfl, rfl⟩ rfl ?_
      change PQ _ _ _ mm_X0_place 0 [.long 0, pm_un, .int 3] [] _ _ 0 0 _
      refine q_lload_n rfl rfl rfl ?_
      refine q_bipush rfl rfl ?_
      refine q_iconst rfl rfl ?_
      refine q_iload_n rfl rfl rfl ?_
      refine q_imul rfl rfl (q_tn (z := 12) rfl ?_)
      refine q_iadd rfl rfl (q_tn (z := 48) rfl ?_)
      refine q_lushr rfl rfl (q_tnl (z := 0) rfl ?_)
      refine q_l2i rfl rfl (q_tn (z := 0) rfl ?_)
      refine q_bipush rfl rfl ?_
      refine q_iand rfl rfl (q_tn (z := 0) rfl ?_)
      refine q_iret rfl rfl trivial ?_
      refine ⟨_, rfl, ?_⟩
      refine q_iadd rfl rfl (q_tn (z := 30) rfl ?_)
      refine q_lshl rfl rfl (q_tnl (z := 1073741824) rfl ?_)
      refine q_lor rfl rfl (q_tnl (z := 1074791425) rfl ?_)
      refine q_putf rfl rfl (by decide) rfl (by decide) rfl trivial ?_
      refine q_icc3 (z := 4) rfl rfl rfl rfl rfl ?_
      refine q_goto rfl ?_
      refine q_iload_n rfl rfl rfl ?_
      refine q_iconst rfl rfl ?_
      refine q_icge rfl rfl (fun c270 => ?_) (fun c270 => absurd (by decide) c270)
      refine q_ret rfl rfl ?_
      refine ⟨rfl, ?_⟩
      refine q_ret rfl rfl ?_
      refine ⟨rfl, ?_⟩
      refine q_aload_n rfl rfl rfl ?_
      refine q_getf rfl rfl (by decide) rfl rfl ?_
      refine q_ifne rfl rfl (fun c271 => ?_) (fun c271 => absurd (by decide) c271)
      refine q_iload_n rfl rfl rfl ?_
      refine q_ifeq rfl rfl (fun c272 => ?_) (fun c272 => absurd (by decide) c272)
      refine q_icc3 (z := 1) rfl rfl rfl rfl rfl ?_
      refine q_goto rfl ?_
      refine q_iload_n rfl rfl rfl ?_
      refine q_sipush rfl rfl ?_
      refine q_icge rfl rfl (fun c273 => absurd c273 (by decide)) (fun c273 => ?_)
      refine q_iload_n rfl rfl rfl ?_
      refine q_aload_n rfl rfl rfl ?_
      refine q_getf rfl rfl (by decide) rfl rfl ?_
      refine q_icge rfl rfl (fun c274 => ?_) (fun c274 => absurd (by decide) c274)
      refine q_ret rfl rfl ?_
      refine ⟨rfl, ?_⟩
      refine q_aload_n rfl rfl rfl ?_
      refine q_getf rfl rfl (by decide) (FW_0 S hW) rfl ?_
      refine q_iconst rfl rfl ?_
      refine q_putf rfl rfl (by decide) rfl (by decide) rfl trivial ?_
      refine q_aload_n rfl rfl rfl ?_
      refine q_getf rfl rfl (by decide) (FW_0 S hW) rfl ?_
      refine q_iload_n rfl rfl rfl ?_
      refine q_aload_n rfl rfl rfl ?_
      refine q_getf rfl rfl (by decide) rfl rfl ?_
      refine q_ifeq rfl rfl (fun c275 => ?_) (fun c275 => absurd (by decide) c275)
      refine q_aload_n rfl rfl rfl ?_
      refine q_getf rfl rfl (by decide) rfl rfl ?_
      refine q_iast rfl rfl (by decide) rfl (by decide) ?_
      refine q_aload_n rfl rfl rfl ?_
      refine q_getf rfl rfl (by decide) (FW_0 S hW) rfl ?_
      refine q_iload_n rfl rfl rfl ?_
      refine q_aload_n rfl rfl rfl ?_
      refine q_getf rfl rfl (by decide) rfl rfl ?_
      refine q_last rfl rfl (by decide) rfl (by decide) ?_
      refine q_aload_n rfl rfl rfl ?_
      refine q_getf rfl rfl (by decide) (FW_0 S hW) rfl ?_
      refine q_iload_n rfl rfl rfl ?_
      refine q_iald rfl rfl (by decide) rfl (by decide) (q_tn (z := 1) rfl ?_)
      refine q_iret rfl rfl trivial ?_
      refine ⟨_, rfl, ?_⟩
      refine q_bipush rfl rfl ?_
      refine q_icne rfl rfl (fun c276 => absurd c276 (by decide)) (fun c276 => ?_)
      refine q_iconst rfl rfl ?_
      refine q_ior rfl rfl (q_tn (z := 0) rfl ?_)
      refine q_ist1n rfl rfl rfl rfl ?_
      refine q_icc2 (z := 4) rfl rfl rfl rfl rfl ?_
      refine q_goto rfl ?_
      refine q_iload_n rfl rfl rfl ?_
      refine q_iconst rfl rfl ?_
      refine q_icge rfl rfl (fun c277 => absurd c277 (by decide)) (fun c277 => ?_)
      refine q_iload_n rfl rfl rfl ?_
      refine q_aload_n rfl rfl rfl ?_
      refine q_iload_n rfl rfl rfl ?_
      refine q_nV1 rfl rfl (Or.inl rfl) rfl rfl rfl (by decide) (FW_0 S hW) ⟨rfl, rfl⟩ rfl ?_
      change PQ _ _ _ mm_X11_sizeOf 0 [.ref 0, .int 4, pm_un] [] _ _ 0 0 _
      refine q_aload_n rfl rfl rfl ?_
      refine q_getf rfl rfl (by decide) (FW_0 S hW) rfl ?_
      refine q_iload_n rfl rfl rfl ?_
      refine q_iald rfl rfl (by decide) rfl (by decide) (q_tn (z := 0) rfl ?_)
      refine q_ifne rfl rfl (fun c278 => ?_) (fun c278 => absurd (by decide) c278)
      refine q_iload_n rfl rfl rfl ?_
      refine q_ifne rfl rfl (fun c279 => absurd c279 (by decide)) (fun c279 => ?_)
      refine q_aload_n rfl rfl rfl ?_
      refine q_getf rfl rfl (by decide) (FW_0 S hW) rfl ?_
      refine q_ast2n rfl rfl rfl rfl ?_
      refine q_aload_n rfl rfl rfl ?_
      refine q_getf rfl rfl (by decide) (FW_0 S hW) rfl ?_
      refine q_iload_n rfl rfl rfl ?_
      refine q_putf rfl rfl (by decide) rfl (by decide) rfl trivial ?_
      refine q_aload_n rfl rfl rfl ?_
      refine q_aload_n rfl rfl rfl ?_
      refine q_getf rfl rfl (by decide) (FW_0 S hW) rfl ?_
      refine q_iconst rfl rfl ?_
      refine q_nV2v rfl rfl (Or.inl rfl) rfl rfl rfl (by decide) rfl ⟨rfl, rfl⟩ rfl ?_
      change PQ _ _ _ mm_X7_explore 0 [.ref 16, .ref 7, .int 0, pm_un] [] _ _ 0 0 _
      refine q_aload_n rfl rfl rfl ?_
      refine q_nV0v rfl rfl (Or.inl rfl) rfl rfl rfl (by decide) rfl ⟨rfl, rfl⟩ rfl ?_
      change PQ _ _ _ mm_X7_clear 0 [.ref 16, pm_un] [] _ _ 0 0 _
      refine q_iconst rfl rfl ?_
      as_aux_lemma =>
        refine q_ist1n rfl rfl rfl rfl ?_
        refine q_iload_n rfl rfl rfl ?_
        refine q_aload_n rfl rfl rfl ?_
        refine q_getf rfl rfl (by decide) rfl rfl ?_
        refine q_icge rfl rfl (fun c280 => absurd c280 (by decide)) (fun c280 => ?_)
        refine q_aload_n rfl rfl rfl ?_
        refine q_getf rfl rfl (by decide) rfl rfl ?_
        refine q_aload_n rfl rfl rfl ?_
        refine q_getf rfl rfl (by decide) rfl rfl ?_
        refine q_iload_n rfl rfl rfl ?_
        refine q_iald rfl rfl (by decide) rfl (by decide) (q_tn (z := 0) rfl ?_)
        refine q_iconst rfl rfl ?_
        refine q_iast rfl rfl (by decide) rfl (by decide) ?_
        refine q_icc1 (z := 1) rfl rfl rfl rfl rfl ?_
        refine q_goto rfl ?_
        refine q_iload_n rfl rfl rfl ?_
        refine q_aload_n rfl rfl rfl ?_
        refine q_getf rfl rfl (by decide) rfl rfl ?_
        refine q_icge rfl rfl (fun c281 => ?_) (fun c281 => absurd (by decide) c281)
        refine q_aload_n rfl rfl rfl ?_
        refine q_iconst rfl rfl ?_
        refine q_putf rfl rfl (by decide) rfl (by decide) rfl trivial ?_
        refine q_aload_n rfl rfl rfl ?_
        refine q_iconst rfl rfl ?_
        refine q_putf rfl rfl (by decide) rfl (by decide) rfl rfl ?_
        refine q_aload_n rfl rfl rfl ?_
        refine q_iconst rfl rfl ?_
        refine q_putf rfl rfl (by decide) rfl (by decide) rfl rfl ?_
        refine q_aload_n rfl rfl rfl ?_
        refine q_lconst rfl rfl ?_
        refine q_putf rfl rfl (by decide) rfl (by decide) rfl trivial ?_
        refine q_ret rfl rfl ?_
        refine ⟨rfl, ?_⟩
        refine q_aload_n rfl rfl rfl ?_
        refine q_aload_n rfl rfl rfl ?_
        refine q_nV0 rfl rfl (Or.inl rfl) rfl rfl rfl (by decide) rfl ⟨rfl, rfl⟩ rfl ?_
        change PQ _ _ _ mm_X6_first 0 [.ref 7, pm_un, pm_un, pm_un] [] _ _ 0 0 _
        refine q_lconst rfl rfl ?_
        refine q_lst1n rfl rfl rfl rfl ?_
        refine q_iconst rfl rfl ?_
        refine q_ist3n rfl rfl rfl rfl ?_
        refine q_iload_n rfl rfl rfl ?_
        refine q_iconst rfl rfl ?_
        refine q_icge rfl rfl (fun c282 => absurd c282 (by decide)) (fun c282 => ?_)
        refine q_lload_n rfl rfl rfl ?_
        refine q_iload_n rfl rfl rfl ?_
        refine q_aload_n rfl rfl rfl ?_
        refine q_getf rfl rfl (by decide) rfl rfl ?_
        refine q_getf rfl rfl (by decide) (FW_1 S hW) rfl ?_
        refine q_iload_n rfl rfl rfl ?_
        refine q_iald rfl rfl (by decide) (FW_2 S hW) (by decide) (q_tn (z := 0) rfl ?_)
        refine q_nS3 rfl rfl (Or.inl rfl) rfl rfl ⟨rfl, rfl⟩ rfl ?_
        change PQ _ _ _ mm_X0_withPlace 0 [.long 0, pm_un, .int 0, .int 0, pm_un] [] _ _ 0 0 _
        refine q_bipush rfl rfl ?_
        refine q_iconst rfl rfl ?_
        refine q_iload_n rfl rfl rfl ?_
        refine q_imul rfl rfl (q_tn (z := 0) rfl ?_)
        refine q_iadd rfl rfl (q_tn (z := 36) rfl ?_)
        refine q_ist4 rfl rfl rfl rfl ?_
        refine q_lload_n rfl rfl rfl ?_
        refine q_ldc2 rfl rfl ?_
        refine q_iload rfl rfl rfl ?_
        refine q_lshl rfl rfl (q_tnl (z := 1030792151040) rfl ?_)
        refine q_ldc2 rfl rfl ?_
        refine q_lxor rfl rfl (q_tnl (z := (-1030792151041)) rfl ?_)
        refine q_land rfl rfl (q_tnl (z := 0) rfl ?_)
        refine q_iload_n rfl rfl rfl ?_
        refine q_i2l rfl rfl (q_tnl (z := 0) rfl ?_)
        refine q_iload rfl rfl rfl ?_
        refine q_lshl rfl rfl (q_tnl (z := 0) rfl ?_)
        refine q_lor rfl rfl (q_tnl (z := 0) rfl ?_)
        refine q_lret rfl rfl trivial ?_
        refine ⟨_, rfl, ?_⟩
        refine q_lst1n rfl rfl rfl rfl ?_
        refine q_icc3 (z := 1) rfl rfl rfl rfl rfl ?_
        refine q_goto rfl ?_
        refine q_iload_n rfl rfl rfl ?_
        refine q_iconst rfl rfl ?_
        refine q_icge rfl rfl (fun c283 => absurd c283 (by decide)) (fun c283 => ?_)
        refine q_lload_n rfl rfl rfl ?_
        refine q_iload_n rfl rfl rfl ?_
        refine q_aload_n rfl rfl rfl ?_
        refine q_getf rfl rfl (by decide) rfl rfl ?_
        refine q_getf rfl rfl (by decide) (FW_1 S hW) rfl ?_
        refine q_iload_n rfl rfl rfl ?_
        refine q_iald rfl rfl (by decide) (FW_2 S hW) (by decide) (q_tn (z := 0) rfl ?_)
        refine q_nS3 rfl rfl (Or.inl rfl) rfl rfl ⟨rfl, rfl⟩ rfl ?_
        change PQ _ _ _ mm_X0_withPlace 0 [.long 0, pm_un, .int 1, .int 0, pm_un] [] _ _ 0 0 _
        refine q_bipush rfl rfl ?_
        refine q_iconst rfl rfl ?_
        refine q_iload_n rfl rfl rfl ?_
        refine q_imul rfl rfl (q_tn (z := 4) rfl ?_)
        refine q_iadd rfl rfl (q_tn (z := 40) rfl ?_)
        refine q_ist4 rfl rfl rfl rfl ?_
        refine q_lload_n rfl rfl rfl ?_
        refine q_ldc2 rfl rfl ?_
        refine q_iload rfl rfl rfl ?_
        refine q_lshl rfl rfl (q_tnl (z := 16492674416640) rfl ?_)
        refine q_ldc2 rfl rfl ?_
        refine q_lxor rfl rfl (q_tnl (z := (-16492674416641)) rfl ?_)
        refine q_land rfl rfl (q_tnl (z := 0) rfl ?_)
        refine q_iload_n rfl rfl rfl ?_
        refine q_i2l rfl rfl (q_tnl (z := 0) rfl ?_)
        refine q_iload rfl rfl rfl ?_
        refine q_lshl rfl rfl (q_tnl (z := 0) rfl ?_)
        refine q_lor rfl rfl (q_tnl (z := 0) rfl ?_)
        refine q_lret rfl rfl trivial ?_
        refine ⟨_, rfl, ?_⟩
        refine q_lst1n rfl rfl rfl rfl ?_
        refine q_icc3 (z := 2) rfl rfl rfl rfl rfl ?_
        refine q_goto rfl ?_
        refine q_iload_n rfl rfl rfl ?_
        refine q_iconst rfl rfl ?_
        refine q_icge rfl rfl (fun c284 => absurd c284 (by decide)) (fun c284 => ?_)
        refine q_lload_n rfl rfl rfl ?_
        refine q_iload_n rfl rfl rfl ?_
        refine q_aload_n rfl rfl rfl ?_
        refine q_getf rfl rfl (by decide) rfl rfl ?_
        refine q_getf rfl rfl (by decide) (FW_1 S hW) rfl ?_
        refine q_iload_n rfl rfl rfl ?_
        refine q_iald rfl rfl (by decide) (FW_2 S hW) (by decide) (q_tn (z := 0) rfl ?_)
        refine q_nS3 rfl rfl (Or.inl rfl) rfl rfl ⟨rfl, rfl⟩ rfl ?_
        change PQ _ _ _ mm_X0_withPlace 0 [.long 0, pm_un, .int 2, .int 0, pm_un] [] _ _ 0 0 _
        refine q_bipush rfl rfl ?_
        refine q_iconst rfl rfl ?_
        refine q_iload_n rfl rfl rfl ?_
        refine q_imul rfl rfl (q_tn (z := 8) rfl ?_)
        refine q_iadd rfl rfl (q_tn (z := 44) rfl ?_)
        refine q_ist4 rfl rfl rfl rfl ?_
        refine q_lload_n rfl rfl rfl ?_
        refine q_ldc2 rfl rfl ?_
        refine q_iload rfl rfl rfl ?_
        refine q_lshl rfl rfl (q_tnl (z := 263882790666240) rfl ?_)
        refine q_ldc2 rfl rfl ?_
        refine q_lxor rfl rfl (q_tnl (z := (-263882790666241)) rfl ?_)
        refine q_land rfl rfl (q_tnl (z := 0) rfl ?_)
        refine q_iload_n rfl rfl rfl ?_
        refine q_i2l rfl rfl (q_tnl (z := 0) rfl ?_)
        refine q_iload rfl rfl rfl ?_
        refine q_lshl rfl rfl (q_tnl (z := 0) rfl ?_)
        refine q_lor rfl rfl (q_tnl (z := 0) rfl ?_)
        refine q_lret rfl rfl trivial ?_
        refine ⟨_, rfl, ?_⟩
        refine q_lst1n rfl rfl rfl rfl ?_
        refine q_icc3 (z := 3) rfl rfl rfl rfl rfl ?_
        refine q_goto rfl ?_
        refine q_iload_n rfl rfl rfl ?_
        refine q_iconst rfl rfl ?_
        refine q_icge rfl rfl (fun c285 => absurd c285 (by decide)) (fun c285 => ?_)
        refine q_lload_n rfl rfl rfl ?_
        refine q_iload_n rfl rfl rfl ?_
        refine q_aload_n rfl rfl rfl ?_
        refine q_getf rfl rfl (by decide) rfl rfl ?_
        refine q_getf rfl rfl (by decide) (FW_1 S hW) rfl ?_
        refine q_iload_n rfl rfl rfl ?_
        refine q_iald rfl rfl (by decide) (FW_2 S hW) (by decide) (q_tn (z := 0) rfl ?_)
        refine q_nS3 rfl rfl (Or.inl rfl) rfl rfl ⟨rfl, rfl⟩ rfl ?_
        change PQ _ _ _ mm_X0_withPlace 0 [.long 0, pm_un, .int 3, .int 0, pm_un] [] _ _ 0 0 _
        refine q_bipush rfl rfl ?_
        refine q_iconst rfl rfl ?_
        refine q_iload_n rfl rfl rfl ?_
        refine q_imul rfl rfl (q_tn (z := 12) rfl ?_)
        refine q_iadd rfl rfl (q_tn (z := 48) rfl ?_)
        refine q_ist4 rfl rfl rfl rfl ?_
        refine q_lload_n rfl rfl rfl ?_
        refine q_ldc2 rfl rfl ?_
        refine q_iload rfl rfl rfl ?_
        refine q_lshl rfl rfl (q_tnl (z := 4222124650659840) rfl ?_)
        refine q_ldc2 rfl rfl ?_
        refine q_lxor rfl rfl (q_tnl (z := (-4222124650659841)) rfl ?_)
        refine q_land rfl rfl (q_tnl (z := 0) rfl ?_)
        refine q_iload_n rfl rfl rfl ?_
        refine q_i2l rfl rfl (q_tnl (z := 0) rfl ?_)
        refine q_iload rfl rfl rfl ?_
        refine q_lshl rfl rfl (q_tnl (z := 0) rfl ?_)
        refine q_lor rfl rfl (q_tnl (z := 0) rfl ?_)
        refine q_lret rfl rfl trivial ?_
        refine ⟨_, rfl, ?_⟩
        refine q_lst1n rfl rfl rfl rfl ?_
        refine q_icc3 (z := 4) rfl rfl rfl rfl rfl ?_
        refine q_goto rfl ?_
        refine q_iload_n rfl rfl rfl ?_
        refine q_iconst rfl rfl ?_
        refine q_icge rfl rfl (fun c286 => ?_) (fun c286 => absurd (by decide) c286)
        refine q_lload_n rfl rfl rfl ?_
        refine q_lret rfl rfl trivial ?_
        refine ⟨_, rfl, ?_⟩
        refine q_iconst rfl rfl ?_
        refine q_iconst rfl rfl ?_
        refine q_nV3 rfl rfl (Or.inl rfl) rfl rfl rfl (by decide) rfl ⟨rfl, rfl⟩ rfl ?_
        change PQ _ _ _ mm_X7_numberOf 0 [.ref 16, .long 0, pm_un, .int (-1), .int (-1), pm_un, pm_un, pm_un] [] _ _ 0 0 _
        refine q_lload_n rfl rfl rfl ?_
        refine q_ldc2 rfl rfl ?_
        refine q_lmul rfl rfl (q_tnl (z := 0) rfl ?_)
        refine q_bipush rfl rfl ?_
        refine q_lushr rfl rfl (q_tnl (z := 0) rfl ?_)
        refine q_l2i rfl rfl (q_tn (z := 0) rfl ?_)
        refine q_sipush rfl rfl ?_
        refine q_iand rfl rfl (q_tn (z := 0) rfl ?_)
        refine q_ist5 rfl rfl rfl rfl ?_
        refine q_iconst rfl rfl ?_
        refine q_ist6 rfl rfl rfl rfl ?_
        refine q_iload rfl rfl rfl ?_
        refine q_sipush rfl rfl ?_
        refine q_icge rfl rfl (fun c287 => absurd c287 (by decide)) (fun c287 => ?_)
        refine q_aload_n rfl rfl rfl ?_
        refine q_getf rfl rfl (by decide) rfl rfl ?_
        refine q_iload rfl rfl rfl ?_
        refine q_iald rfl rfl (by decide) rfl (by decide) (q_tn (z := 0) rfl ?_)
        refine q_iconst rfl rfl ?_
        refine q_isub rfl rfl (q_tn (z := (-1)) rfl ?_)
        refine q_ist7 rfl rfl rfl rfl ?_
        refine q_iload rfl rfl rfl ?_
        refine q_ifge rfl rfl (fun c288 => absurd c288 (by decide)) (fun c288 => ?_)
        refine q_aload_n rfl rfl rfl ?_
        refine q_lload_n rfl rfl rfl ?_
        refine q_iload rfl rfl rfl ?_
        refine q_iload_n rfl rfl rfl ?_
        refine q_iload rfl rfl rfl ?_
        refine q_nV4 rfl rfl (Or.inl rfl) rfl rfl rfl (by decide) rfl ⟨rfl, rfl⟩ rfl ?_
        change PQ _ _ _ mm_X7_newNumber 0 [.ref 16, .long 0, pm_un, .int 0, .int (-1), .int (-1), pm_un] [] _ _ 0 0 _
        refine q_aload_n rfl rfl rfl ?_
        refine q_getf rfl rfl (by decide) rfl rfl ?_
        refine q_sipush rfl rfl ?_
        refine q_iclt rfl rfl (fun c289 => ?_) (fun c289 => absurd (by decide) c289)
        refine q_aload_n rfl rfl rfl ?_
        refine q_dupr rfl rfl ?_
        refine q_getf rfl rfl (by decide) rfl rfl ?_
        refine q_dupx1 rfl rfl ?_
        refine q_iconst rfl rfl ?_
        refine q_iadd rfl rfl (q_tn (z := 1) rfl ?_)
        refine q_putf rfl rfl (by decide) rfl (by decide) rfl trivial ?_
        refine q_ist6 rfl rfl rfl rfl ?_
        refine q_aload_n rfl rfl rfl ?_
        refine q_getf rfl rfl (by decide) rfl rfl ?_
        refine q_iload rfl rfl rfl ?_
        refine q_lload_n rfl rfl rfl ?_
        refine q_last rfl rfl (by decide) rfl (by decide) ?_
        refine q_aload_n rfl rfl rfl ?_
        refine q_getf rfl rfl (by decide) rfl rfl ?_
        refine q_iload rfl rfl rfl ?_
        refine q_iload rfl rfl rfl ?_
        refine q_iast rfl rfl (by decide) rfl (by decide) ?_
        refine q_aload_n rfl rfl rfl ?_
        refine q_getf rfl rfl (by decide) rfl rfl ?_
        refine q_iload rfl rfl rfl ?_
        refine q_iload rfl rfl rfl ?_
        refine q_iast rfl rfl (by decide) rfl (by decide) ?_
        refine q_aload_n rfl rfl rfl ?_
        refine q_getf rfl rfl (by decide) rfl rfl ?_
        refine q_iload rfl rfl rfl ?_
        refine q_iload_n rfl rfl rfl ?_
        refine q_iast rfl rfl (by decide) rfl (by decide) ?_
        refine q_aload_n rfl rfl rfl ?_
        refine q_getf rfl rfl (by decide) rfl rfl ?_
        refine q_iload_n rfl rfl rfl ?_
        refine q_iload rfl rfl rfl ?_
        refine q_iconst rfl rfl ?_
        refine q_iadd rfl rfl (q_tn (z := 1) rfl ?_)
        refine q_iast rfl rfl (by decide) rfl (by decide) ?_
        refine q_iload rfl rfl rfl ?_
        refine q_iret rfl rfl trivial ?_
        refine ⟨_, rfl, ?_⟩
        refine q_iret rfl rfl trivial ?_
        refine ⟨_, rfl, ?_⟩
        refine q_pop rfl rfl ?_
        refine q_iconst rfl rfl ?_
        refine q_ist3n rfl rfl rfl rfl ?_
        refine q_iload_n rfl rfl rfl ?_
        refine q_sipush rfl rfl ?_
        refine q_icge rfl rfl (fun c290 => absurd c290 (by decide)) (fun c290 => ?_)
        refine q_iload_n rfl rfl rfl ?_
        refine q_aload_n rfl rfl rfl ?_
        refine q_getf rfl rfl (by decide) rfl rfl ?_
        refine q_icge rfl rfl (fun c291 => absurd c291 (by decide)) (fun c291 => ?_)
        refine q_aload_n rfl rfl rfl ?_
        refine q_aload_n rfl rfl rfl ?_
        refine q_iload_n rfl rfl rfl ?_
        refine q_nV2v rfl rfl (Or.inl rfl) rfl rfl rfl (by decide) rfl ⟨rfl, rfl⟩ rfl ?_
        change PQ _ _ _ mm_X7_lookAt 0 [.ref 16, .ref 7, .int 0, pm_un, pm_un, pm_un, pm_un, pm_un, pm_un, pm_un] [] _ _ 0 0 _
        refine q_aload_n rfl rfl rfl ?_
        refine q_getf rfl rfl (by decide) rfl rfl ?_
        refine q_iload_n rfl rfl rfl ?_
        refine q_lald rfl rfl (by decide) rfl (by decide) (q_tnl (z := 0) rfl ?_)
        refine q_lst3n rfl rfl rfl rfl ?_
        refine q_aload_n rfl rfl rfl ?_
        refine q_aload_n rfl rfl rfl ?_
        refine q_lload_n rfl rfl rfl ?_
        refine q_nV1 rfl rfl (Or.inl rfl) rfl rfl rfl (by decide) rfl ⟨rfl, rfl⟩ rfl ?_
        change PQ _ _ _ mm_X6_ableHands 0 [.ref 7, .long 0, pm_un, pm_un, pm_un, pm_un] [] _ _ 0 0 _
        refine q_aload_n rfl rfl rfl ?_
        refine q_lload_n rfl rfl rfl ?_
        refine q_nV1 rfl rfl (Or.inl rfl) rfl rfl rfl (by decide) rfl ⟨rfl, rfl⟩ rfl ?_
        change PQ _ _ _ mm_X6_allMeet 0 [.ref 7, .long 0, pm_un, pm_un, pm_un] [] _ _ 0 0 _
        refine q_iconst rfl rfl ?_
        refine q_ist3n rfl rfl rfl rfl ?_
        refine q_iload_n rfl rfl rfl ?_
        refine q_aload_n rfl rfl rfl ?_
        refine q_getf rfl rfl (by decide) rfl rfl ?_
        refine q_getf rfl rfl (by decide) (FW_1 S hW) rfl ?_
        refine q_icge rfl rfl (fun c292 => absurd c292 (by decide)) (fun c292 => ?_)
        refine q_aload_n rfl rfl rfl ?_
        refine q_getf rfl rfl (by decide) rfl rfl ?_
        refine q_iload_n rfl rfl rfl ?_
        refine q_lload_n rfl rfl rfl ?_
        refine q_iload_n rfl rfl rfl ?_
        refine q_nS2 rfl rfl (Or.inl rfl) rfl rfl ⟨rfl, rfl⟩ rfl ?_
        change PQ _ _ _ mm_X0_position 0 [.long 0, pm_un, .int 0] [] _ _ 0 0 _
        refine q_lload_n rfl rfl rfl ?_
        refine q_bipush rfl rfl ?_
        refine q_iload_n rfl rfl rfl ?_
        refine q_imul rfl rfl (q_tn (z := 0) rfl ?_)
        refine q_lushr rfl rfl (q_tnl (z := 0) rfl ?_)
        refine q_l2i rfl rfl (q_tn (z := 0) rfl ?_)
        refine q_bipush rfl rfl ?_
        refine q_iand rfl rfl (q_tn (z := 0) rfl ?_)
        refine q_iret rfl rfl trivial ?_
        refine ⟨_, rfl, ?_⟩
        refine q_nV2 rfl rfl (Or.inl rfl) rfl rfl rfl (by decide) (FW_1 S hW) ⟨rfl, rfl⟩ rfl ?_
        change PQ _ _ _ mm_X8_cellOf 0 [.ref 1, .int 0, .int 0, pm_un] [] _ _ 0 0 _
        refine q_iload_n rfl rfl rfl ?_
        refine q_iflt rfl rfl (fun c293 => absurd c293 (by decide)) (fun c293 => ?_)
        refine q_iload_n rfl rfl rfl ?_
        refine q_aload_n rfl rfl rfl ?_
        refine q_getf rfl rfl (by decide) (FW_1 S hW) rfl ?_
        refine q_icge rfl rfl (fun c294 => absurd c294 (by decide)) (fun c294 => ?_)
        refine q_iload_n rfl rfl rfl ?_
        refine q_iflt rfl rfl (fun c295 => absurd c295 (by decide)) (fun c295 => ?_)
        refine q_iload_n rfl rfl rfl ?_
        refine q_aload_n rfl rfl rfl ?_
        refine q_getf rfl rfl (by decide) (FW_1 S hW) rfl ?_
        refine q_iload_n rfl rfl rfl ?_
        refine q_iald rfl rfl (by decide) (FW_3 S hW) (by decide) (q_tn (z := 0) rfl ?_)
        refine q_icge rfl rfl (fun c296 => ?_) (fun c296 => absurd (by decide) c296)
        refine q_iconst rfl rfl ?_
        refine q_ist3n rfl rfl rfl rfl ?_
        refine q_iload_n rfl rfl rfl ?_
        refine q_ifeq rfl rfl (fun c297 => ?_) (fun c297 => absurd (by decide) c297)
        refine q_iconst rfl rfl ?_
        refine q_iret rfl rfl trivial ?_
        refine ⟨_, rfl, ?_⟩
        refine q_ist4 rfl rfl rfl rfl ?_
        refine q_iload rfl rfl rfl ?_
        refine q_iflt rfl rfl (fun c298 => ?_) (fun c298 => absurd (by decide) c298)
        refine q_icc3 (z := 1) rfl rfl rfl rfl rfl ?_
        refine q_goto rfl ?_
        refine q_iload_n rfl rfl rfl ?_
        refine q_aload_n rfl rfl rfl ?_
        refine q_getf rfl rfl (by decide) rfl rfl ?_
        refine q_getf rfl rfl (by decide) (FW_1 S hW) rfl ?_
        refine q_icge rfl rfl (fun c299 => ?_) (fun c299 => absurd (by decide) c299)
        refine q_iconst rfl rfl ?_
        refine q_iret rfl rfl rfl ?_
        refine ⟨_, rfl, ?_⟩
        refine q_ist3n rfl rfl rfl rfl ?_
        refine q_iconst rfl rfl ?_
        refine q_ist4 rfl rfl rfl rfl ?_
        refine q_iconst rfl rfl ?_
        refine q_ist5 rfl rfl rfl rfl ?_
        refine q_iload rfl rfl rfl ?_
        refine q_aload_n rfl rfl rfl ?_
        refine q_getf rfl rfl (by decide) rfl rfl ?_
        refine q_getf rfl rfl (by decide) (FW_1 S hW) rfl ?_
        refine q_icge rfl rfl (fun c300 => absurd c300 (by decide)) (fun c300 => ?_)
        refine q_aload_n rfl rfl rfl ?_
        refine q_lload_n rfl rfl rfl ?_
        refine q_iload rfl rfl rfl ?_
        refine q_iload_n rfl rfl rfl ?_
        refine q_nV3 rfl rfl (Or.inl rfl) rfl rfl rfl (by decide) rfl ⟨rfl, rfl⟩ rfl ?_
        change PQ _ _ _ mm_X6_isAble 0 [.ref 7, .long 0, pm_un, .int 0, .int 1, pm_un, pm_un, pm_un] [] _ _ 0 0 _
        refine q_aload_n rfl rfl rfl ?_
        refine q_getf rfl rfl (by decide) rfl rfl ?_
        refine q_iload_n rfl rfl rfl ?_
        refine q_lload_n rfl rfl rfl ?_
        refine q_iload_n rfl rfl rfl ?_
        refine q_nS2 rfl rfl (Or.inl rfl) rfl rfl ⟨rfl, rfl⟩ rfl ?_
        change PQ _ _ _ mm_X0_position 0 [.long 0, pm_un, .int 0] [] _ _ 0 0 _
        refine q_lload_n rfl rfl rfl ?_
        refine q_bipush rfl rfl ?_
        refine q_iload_n rfl rfl rfl ?_
        refine q_imul rfl rfl (q_tn (z := 0) rfl ?_)
        refine q_lushr rfl rfl (q_tnl (z := 0) rfl ?_)
        refine q_l2i rfl rfl (q_tn (z := 0) rfl ?_)
        refine q_bipush rfl rfl ?_
        refine q_iand rfl rfl (q_tn (z := 0) rfl ?_)
        refine q_iret rfl rfl trivial ?_
        refine ⟨_, rfl, ?_⟩
        refine q_nV2 rfl rfl (Or.inl rfl) rfl rfl rfl (by decide) (FW_1 S hW) ⟨rfl, rfl⟩ rfl ?_
        change PQ _ _ _ mm_X8_cellOf 0 [.ref 1, .int 0, .int 0, pm_un] [] _ _ 0 0 _
        refine q_iload_n rfl rfl rfl ?_
        refine q_iflt rfl rfl (fun c301 => absurd c301 (by decide)) (fun c301 => ?_)
        refine q_iload_n rfl rfl rfl ?_
        refine q_aload_n rfl rfl rfl ?_
        refine q_getf rfl rfl (by decide) (FW_1 S hW) rfl ?_
        refine q_icge rfl rfl (fun c302 => absurd c302 (by decide)) (fun c302 => ?_)
        refine q_iload_n rfl rfl rfl ?_
        refine q_iflt rfl rfl (fun c303 => absurd c303 (by decide)) (fun c303 => ?_)
        refine q_iload_n rfl rfl rfl ?_
        refine q_aload_n rfl rfl rfl ?_
        refine q_getf rfl rfl (by decide) (FW_1 S hW) rfl ?_
        refine q_iload_n rfl rfl rfl ?_
        refine q_iald rfl rfl (by decide) (FW_3 S hW) (by decide) (q_tn (z := 0) rfl ?_)
        refine q_icge rfl rfl (fun c304 => ?_) (fun c304 => absurd (by decide) c304)
        refine q_iconst rfl rfl ?_
        refine q_ist3n rfl rfl rfl rfl ?_
        refine q_iload_n rfl rfl rfl ?_
        refine q_ifeq rfl rfl (fun c305 => ?_) (fun c305 => absurd (by decide) c305)
        refine q_iconst rfl rfl ?_
        refine q_iret rfl rfl trivial ?_
        refine ⟨_, rfl, ?_⟩
        refine q_ist5 rfl rfl rfl rfl ?_
        refine q_iload rfl rfl rfl ?_
        refine q_ifge rfl rfl (fun c306 => absurd c306 (by decide)) (fun c306 => ?_)
        refine q_iconst rfl rfl ?_
        refine q_iret rfl rfl rfl ?_
        refine ⟨_, rfl, ?_⟩
        refine q_ifeq rfl rfl (fun c307 => ?_) (fun c307 => absurd (by decide) c307)
        refine q_icc5 (z := 1) rfl rfl rfl rfl rfl ?_
        refine q_goto rfl ?_
        refine q_iload rfl rfl rfl ?_
        refine q_aload_n rfl rfl rfl ?_
        refine q_getf rfl rfl (by decide) rfl rfl ?_
        refine q_getf rfl rfl (by decide) (FW_1 S hW) rfl ?_
        refine q_icge rfl rfl (fun c308 => ?_) (fun c308 => absurd (by decide) c308)
        refine q_iload rfl rfl rfl ?_
        refine q_iret rfl rfl trivial ?_
        refine ⟨_, rfl, ?_⟩
        refine q_lload_n rfl rfl rfl ?_
        refine q_nS1 rfl rfl (Or.inl rfl) rfl rfl ⟨rfl, rfl⟩ rfl ?_
        change PQ _ _ _ mm_X0_last 0 [.long 0, pm_un] [] _ _ 0 0 _
        refine q_lload_n rfl rfl rfl ?_
        refine q_bipush rfl rfl ?_
        refine q_lushr rfl rfl (q_tnl (z := 0) rfl ?_)
        refine q_l2i rfl rfl (q_tn (z := 0) rfl ?_)
        refine q_iconst rfl rfl ?_
        refine q_iand rfl rfl (q_tn (z := 0) rfl ?_)
        refine q_iconst rfl rfl ?_
        refine q_isub rfl rfl (q_tn (z := (-1)) rfl ?_)
        refine q_iret rfl rfl trivial ?_
        refine ⟨_, rfl, ?_⟩
        refine q_nV2 rfl rfl (Or.inl rfl) rfl rfl rfl (by decide) rfl ⟨rfl, rfl⟩ rfl ?_
        change PQ _ _ _ mm_X6_chosenHands 0 [.ref 7, .int 0, .int (-1), pm_un, pm_un] [] _ _ 0 0 _
        refine q_aload_n rfl rfl rfl ?_
        refine q_getf rfl rfl (by decide) rfl rfl ?_
        refine q_iconst rfl rfl ?_
        refine q_icne rfl rfl (fun c309 => absurd c309 (by decide)) (fun c309 => ?_)
        refine q_aload_n rfl rfl rfl ?_
        refine q_getf rfl rfl (by decide) rfl rfl ?_
        refine q_iconst rfl rfl ?_
        refine q_iceq rfl rfl (fun c310 => absurd c310 (by decide)) (fun c310 => ?_)
        refine q_iload_n rfl rfl rfl ?_
        refine q_iret rfl rfl trivial ?_
        refine ⟨_, rfl, ?_⟩
        refine q_ist5 rfl rfl rfl rfl ?_
        refine q_iconst rfl rfl ?_
        refine q_ist6 rfl rfl rfl rfl ?_
        refine q_iload rfl rfl rfl ?_
        refine q_iconst rfl rfl ?_
        refine q_icge rfl rfl (fun c311 => absurd c311 (by decide)) (fun c311 => ?_)
        refine q_iconst rfl rfl ?_
        refine q_ist7 rfl rfl rfl rfl ?_
        refine q_iload rfl rfl rfl ?_
        refine q_iload rfl rfl rfl ?_
        refine q_iushr rfl rfl (q_tn (z := 0) rfl ?_)
        refine q_iconst rfl rfl ?_
        refine q_iand rfl rfl (q_tn (z := 0) rfl ?_)
        refine q_ifeq rfl rfl (fun c312 => ?_) (fun c312 => absurd (by decide) c312)
        refine q_aload_n rfl rfl rfl ?_
        refine q_getf rfl rfl (by decide) rfl rfl ?_
        refine q_iload_n rfl rfl rfl ?_
        refine q_iconst rfl rfl ?_
        refine q_imul rfl rfl (q_tn (z := 0) rfl ?_)
        refine q_iload rfl rfl rfl ?_
        refine q_iadd rfl rfl (q_tn (z := 0) rfl ?_)
        refine q_iload rfl rfl rfl ?_
        refine q_iast rfl rfl (by decide) rfl (by decide) ?_
        refine q_icc6 (z := 1) rfl rfl rfl rfl rfl ?_
        refine q_goto rfl ?_
        refine q_iload rfl rfl rfl ?_
        refine q_iconst rfl rfl ?_
        refine q_icge rfl rfl (fun c313 => absurd c313 (by decide)) (fun c313 => ?_)
        refine q_iconst rfl rfl ?_
        refine q_ist7 rfl rfl rfl rfl ?_
        refine q_iload rfl rfl rfl ?_
        refine q_iload rfl rfl rfl ?_
        refine q_iushr rfl rfl (q_tn (z := 0) rfl ?_)
        refine q_iconst rfl rfl ?_
        refine q_iand rfl rfl (q_tn (z := 0) rfl ?_)
        refine q_ifeq rfl rfl (fun c314 => ?_) (fun c314 => absurd (by decide) c314)
        refine q_aload_n rfl rfl rfl ?_
        refine q_getf rfl rfl (by decide) rfl rfl ?_
        refine q_iload_n rfl rfl rfl ?_
        refine q_iconst rfl rfl ?_
        refine q_imul rfl rfl (q_tn (z := 0) rfl ?_)
        refine q_iload rfl rfl rfl ?_
        refine q_iadd rfl rfl (q_tn (z := 1) rfl ?_)
        refine q_iload rfl rfl rfl ?_
        refine q_iast rfl rfl (by decide) rfl (by decide) ?_
        refine q_icc6 (z := 2) rfl rfl rfl rfl rfl ?_
        refine q_goto rfl ?_
        refine q_iload rfl rfl rfl ?_
        refine q_iconst rfl rfl ?_
        refine q_icge rfl rfl (fun c315 => absurd c315 (by decide)) (fun c315 => ?_)
        refine q_iconst rfl rfl ?_
        refine q_ist7 rfl rfl rfl rfl ?_
        refine q_iload rfl rfl rfl ?_
        refine q_iload rfl rfl rfl ?_
        refine q_iushr rfl rfl (q_tn (z := 0) rfl ?_)
        refine q_iconst rfl rfl ?_
        refine q_iand rfl rfl (q_tn (z := 0) rfl ?_)
        refine q_ifeq rfl rfl (fun c316 => ?_) (fun c316 => absurd (by decide) c316)
        refine q_aload_n rfl rfl rfl ?_
        refine q_getf rfl rfl (by decide) rfl rfl ?_
        refine q_iload_n rfl rfl rfl ?_
        refine q_iconst rfl rfl ?_
        refine q_imul rfl rfl (q_tn (z := 0) rfl ?_)
        refine q_iload rfl rfl rfl ?_
        refine q_iadd rfl rfl (q_tn (z := 2) rfl ?_)
        refine q_iload rfl rfl rfl ?_
        refine q_iast rfl rfl (by decide) rfl (by decide) ?_
        refine q_icc6 (z := 3) rfl rfl rfl rfl rfl ?_
        refine q_goto rfl ?_
        refine q_iload rfl rfl rfl ?_
        refine q_iconst rfl rfl ?_
        refine q_icge rfl rfl (fun c317 => ?_) (fun c317 => absurd (by decide) c317)
        refine q_aload_n rfl rfl rfl ?_
        refine q_getf rfl rfl (by decide) rfl rfl ?_
        refine q_iload_n rfl rfl rfl ?_
        refine q_iload rfl rfl rfl ?_
        refine q_ifeq rfl rfl (fun c318 => ?_) (fun c318 => absurd (by decide) c318)
        refine q_aload_n rfl rfl rfl ?_
        refine q_lload_n rfl rfl rfl ?_
        refine q_nV1 rfl rfl (Or.inl rfl) rfl rfl rfl (by decide) rfl ⟨rfl, rfl⟩ rfl ?_
        change PQ _ _ _ mm_X6_isEnd 0 [.ref 7, .long 0, pm_un, pm_un] [] _ _ 0 0 _
        refine q_iconst rfl rfl ?_
        refine q_ist3n rfl rfl rfl rfl ?_
        refine q_iload_n rfl rfl rfl ?_
        refine q_aload_n rfl rfl rfl ?_
        refine q_getf rfl rfl (by decide) rfl rfl ?_
        refine q_getf rfl rfl (by decide) (FW_1 S hW) rfl ?_
        refine q_icge rfl rfl (fun c319 => absurd c319 (by decide)) (fun c319 => ?_)
        refine q_aload_n rfl rfl rfl ?_
        refine q_getf rfl rfl (by decide) rfl rfl ?_
        refine q_iload_n rfl rfl rfl ?_
        refine q_lload_n rfl rfl rfl ?_
        refine q_iload_n rfl rfl rfl ?_
        refine q_nS2 rfl rfl (Or.inl rfl) rfl rfl ⟨rfl, rfl⟩ rfl ?_
        change PQ _ _ _ mm_X0_position 0 [.long 0, pm_un, .int 0] [] _ _ 0 0 _
        refine q_lload_n rfl rfl rfl ?_
        refine q_bipush rfl rfl ?_
        refine q_iload_n rfl rfl rfl ?_
        refine q_imul rfl rfl (q_tn (z := 0) rfl ?_)
        refine q_lushr rfl rfl (q_tnl (z := 0) rfl ?_)
        refine q_l2i rfl rfl (q_tn (z := 0) rfl ?_)
        refine q_bipush rfl rfl ?_
        refine q_iand rfl rfl (q_tn (z := 0) rfl ?_)
        refine q_iret rfl rfl trivial ?_
        refine ⟨_, rfl, ?_⟩
        refine q_nV2 rfl rfl (Or.inl rfl) rfl rfl rfl (by decide) (FW_1 S hW) ⟨rfl, rfl⟩ rfl ?_
        change PQ _ _ _ mm_X8_cellOf 0 [.ref 1, .int 0, .int 0, pm_un] [] _ _ 0 0 _
        refine q_iload_n rfl rfl rfl ?_
        refine q_iflt rfl rfl (fun c320 => absurd c320 (by decide)) (fun c320 => ?_)
        refine q_iload_n rfl rfl rfl ?_
        refine q_aload_n rfl rfl rfl ?_
        refine q_getf rfl rfl (by decide) (FW_1 S hW) rfl ?_
        refine q_icge rfl rfl (fun c321 => absurd c321 (by decide)) (fun c321 => ?_)
        refine q_iload_n rfl rfl rfl ?_
        refine q_iflt rfl rfl (fun c322 => absurd c322 (by decide)) (fun c322 => ?_)
        refine q_iload_n rfl rfl rfl ?_
        refine q_aload_n rfl rfl rfl ?_
        refine q_getf rfl rfl (by decide) (FW_1 S hW) rfl ?_
        refine q_iload_n rfl rfl rfl ?_
        refine q_iald rfl rfl (by decide) (FW_3 S hW) (by decide) (q_tn (z := 0) rfl ?_)
        refine q_icge rfl rfl (fun c323 => ?_) (fun c323 => absurd (by decide) c323)
        refine q_iconst rfl rfl ?_
        refine q_ist3n rfl rfl rfl rfl ?_
        refine q_iload_n rfl rfl rfl ?_
        refine q_ifeq rfl rfl (fun c324 => ?_) (fun c324 => absurd (by decide) c324)
        refine q_iconst rfl rfl ?_
        refine q_iret rfl rfl trivial ?_
        refine ⟨_, rfl, ?_⟩
        refine q_iflt rfl rfl (fun c325 => ?_) (fun c325 => absurd (by decide) c325)
        refine q_icc3 (z := 1) rfl rfl rfl rfl rfl ?_
        refine q_goto rfl ?_
        refine q_iload_n rfl rfl rfl ?_
        refine q_aload_n rfl rfl rfl ?_
        refine q_getf rfl rfl (by decide) rfl rfl ?_
        refine q_getf rfl rfl (by decide) (FW_1 S hW) rfl ?_
        refine q_icge rfl rfl (fun c326 => ?_) (fun c326 => absurd (by decide) c326)
        refine q_iconst rfl rfl ?_
        refine q_iret rfl rfl rfl ?_
        refine ⟨_, rfl, ?_⟩
        refine q_ifeq rfl rfl (fun c327 => absurd c327 (by decide)) (fun c327 => ?_)
        refine q_iconst rfl rfl ?_
        refine q_goto rfl ?_
        refine q_iast rfl rfl (by decide) rfl (by decide) ?_
        refine q_aload_n rfl rfl rfl ?_
        refine q_dupr rfl rfl ?_
        refine q_getf rfl rfl (by decide) rfl rfl ?_
        refine q_aload_n rfl rfl rfl ?_
        refine q_getf rfl rfl (by decide) rfl rfl ?_
        refine q_iload_n rfl rfl rfl ?_
        refine q_iald rfl rfl (by decide) rfl (by decide) (q_tn (z := 1) rfl ?_)
        refine q_iconst rfl rfl ?_
        refine q_iceq rfl rfl (fun c328 => absurd c328 (by decide)) (fun c328 => ?_)
        refine q_aload_n rfl rfl rfl ?_
        refine q_lload_n rfl rfl rfl ?_
        refine q_nV1 rfl rfl (Or.inl rfl) rfl rfl rfl (by decide) rfl ⟨rfl, rfl⟩ rfl ?_
        change PQ _ _ _ mm_X6_someFailed 0 [.ref 7, .long 0, pm_un, pm_un] [] _ _ 0 0 _
        refine q_iconst rfl rfl ?_
        refine q_ist3n rfl rfl rfl rfl ?_
        refine q_iload_n rfl rfl rfl ?_
        refine q_aload_n rfl rfl rfl ?_
        refine q_getf rfl rfl (by decide) rfl rfl ?_
        refine q_getf rfl rfl (by decide) (FW_1 S hW) rfl ?_
        refine q_icge rfl rfl (fun c329 => absurd c329 (by decide)) (fun c329 => ?_)
        refine q_lload_n rfl rfl rfl ?_
        refine q_iload_n rfl rfl rfl ?_
        refine q_nS2 rfl rfl (Or.inl rfl) rfl rfl ⟨rfl, rfl⟩ rfl ?_
        change PQ _ _ _ mm_X0_position 0 [.long 0, pm_un, .int 0] [] _ _ 0 0 _
        refine q_lload_n rfl rfl rfl ?_
        refine q_bipush rfl rfl ?_
        refine q_iload_n rfl rfl rfl ?_
        refine q_imul rfl rfl (q_tn (z := 0) rfl ?_)
        refine q_lushr rfl rfl (q_tnl (z := 0) rfl ?_)
        refine q_l2i rfl rfl (q_tn (z := 0) rfl ?_)
        refine q_bipush rfl rfl ?_
        refine q_iand rfl rfl (q_tn (z := 0) rfl ?_)
        refine q_iret rfl rfl trivial ?_
        refine ⟨_, rfl, ?_⟩
        refine q_bipush rfl rfl ?_
        refine q_icne rfl rfl (fun c330 => absurd c330 (by decide)) (fun c330 => ?_)
        refine q_icc3 (z := 1) rfl rfl rfl rfl rfl ?_
        refine q_goto rfl ?_
        refine q_iload_n rfl rfl rfl ?_
        refine q_aload_n rfl rfl rfl ?_
        refine q_getf rfl rfl (by decide) rfl rfl ?_
        refine q_getf rfl rfl (by decide) (FW_1 S hW) rfl ?_
        refine q_icge rfl rfl (fun c331 => ?_) (fun c331 => absurd (by decide) c331)
        refine q_iconst rfl rfl ?_
        refine q_iret rfl rfl rfl ?_
        refine ⟨_, rfl, ?_⟩
        refine q_ifeq rfl rfl (fun c332 => ?_) (fun c332 => absurd (by decide) c332)
        refine q_iconst rfl rfl ?_
        refine q_ior rfl rfl (q_tn (z := 0) rfl ?_)
        refine q_putf rfl rfl (by decide) rfl (by decide) rfl rfl ?_
        refine q_aload_n rfl rfl rfl ?_
        refine q_getf rfl rfl (by decide) rfl rfl ?_
        refine q_iload_n rfl rfl rfl ?_
        refine q_iald rfl rfl (by decide) rfl (by decide) (q_tn (z := 1) rfl ?_)
        refine q_iconst rfl rfl ?_
        refine q_icne rfl rfl (fun c333 => ?_) (fun c333 => absurd (by decide) c333)
        refine q_aload_n rfl rfl rfl ?_
        refine q_lload_n rfl rfl rfl ?_
        refine q_nV1v rfl rfl (Or.inl rfl) rfl rfl rfl (by decide) rfl ⟨rfl, rfl⟩ rfl ?_
        change PQ _ _ _ mm_X7_noteEnd 0 [.ref 16, .long 0, pm_un, pm_un] [] _ _ 0 0 _
        refine q_iconst rfl rfl ?_
        refine q_ist3n rfl rfl rfl rfl ?_
        refine q_iload_n rfl rfl rfl ?_
        refine q_iconst rfl rfl ?_
        refine q_icge rfl rfl (fun c334 => absurd c334 (by decide)) (fun c334 => ?_)
        refine q_aload_n rfl rfl rfl ?_
        refine q_dupr rfl rfl ?_
        refine q_getf rfl rfl (by decide) rfl rfl ?_
        refine q_lconst rfl rfl ?_
        refine q_bipush rfl rfl ?_
        refine q_iload_n rfl rfl rfl ?_
        refine q_imul rfl rfl (q_tn (z := 0) rfl ?_)
        refine q_lload_n rfl rfl rfl ?_
        refine q_iload_n rfl rfl rfl ?_
        refine q_nS2 rfl rfl (Or.inl rfl) rfl rfl ⟨rfl, rfl⟩ rfl ?_
        change PQ _ _ _ mm_X0_place 0 [.long 0, pm_un, .int 0] [] _ _ 0 0 _
        refine q_lload_n rfl rfl rfl ?_
        refine q_bipush rfl rfl ?_
        refine q_iconst rfl rfl ?_
        refine q_iload_n rfl rfl rfl ?_
        refine q_imul rfl rfl (q_tn (z := 0) rfl ?_)
        refine q_iadd rfl rfl (q_tn (z := 36) rfl ?_)
        refine q_lushr rfl rfl (q_tnl (z := 0) rfl ?_)
        refine q_l2i rfl rfl (q_tn (z := 0) rfl ?_)
        refine q_bipush rfl rfl ?_
        refine q_iand rfl rfl (q_tn (z := 0) rfl ?_)
        refine q_iret rfl rfl trivial ?_
        refine ⟨_, rfl, ?_⟩
        refine q_iadd rfl rfl (q_tn (z := 0) rfl ?_)
        refine q_lshl rfl rfl (q_tnl (z := 1) rfl ?_)
        refine q_lor rfl rfl (q_tnl (z := 1) rfl ?_)
        refine q_putf rfl rfl (by decide) rfl (by decide) rfl trivial ?_
        refine q_icc3 (z := 1) rfl rfl rfl rfl rfl ?_
        refine q_goto rfl ?_
        refine q_iload_n rfl rfl rfl ?_
        refine q_iconst rfl rfl ?_
        refine q_icge rfl rfl (fun c335 => absurd c335 (by decide)) (fun c335 => ?_)
        refine q_aload_n rfl rfl rfl ?_
        refine q_dupr rfl rfl ?_
        refine q_getf rfl rfl (by decide) rfl rfl ?_
        refine q_lconst rfl rfl ?_
        refine q_bipush rfl rfl ?_
        refine q_iload_n rfl rfl rfl ?_
        refine q_imul rfl rfl (q_tn (z := 10) rfl ?_)
        refine q_lload_n rfl rfl rfl ?_
        refine q_iload_n rfl rfl rfl ?_
        refine q_nS2 rfl rfl (Or.inl rfl) rfl rfl ⟨rfl, rfl⟩ rfl ?_
        change PQ _ _ _ mm_X0_place 0 [.long 0, pm_un, .int 1] [] _ _ 0 0 _
        refine q_lload_n rfl rfl rfl ?_
        refine q_bipush rfl rfl ?_
        refine q_iconst rfl rfl ?_
        refine q_iload_n rfl rfl rfl ?_
        refine q_imul rfl rfl (q_tn (z := 4) rfl ?_)
        refine q_iadd rfl rfl (q_tn (z := 40) rfl ?_)
        refine q_lushr rfl rfl (q_tnl (z := 0) rfl ?_)
        refine q_l2i rfl rfl (q_tn (z := 0) rfl ?_)
        refine q_bipush rfl rfl ?_
        refine q_iand rfl rfl (q_tn (z := 0) rfl ?_)
        refine q_iret rfl rfl trivial ?_
        refine ⟨_, rfl, ?_⟩
        refine q_iadd rfl rfl (q_tn (z := 10) rfl ?_)
        refine q_lshl rfl rfl (q_tnl (z := 1024) rfl ?_)
        refine q_lor rfl rfl (q_tnl (z := 1025) rfl ?_)
        refine q_putf rfl rfl (by decide) rfl (by decide) rfl trivial ?_
        refine q_icc3 (z := 2) rfl rfl rfl rfl rfl ?_
        refine q_goto rfl ?_
        refine q_iload_n rfl rfl rfl ?_
        refine q_iconst rfl rfl ?_
        refine q_icge rfl rfl (fun c336 => absurd c336 (by decide)) (fun c336 => ?_)
        refine q_aload_n rfl rfl rfl ?_
        refine q_dupr rfl rfl ?_
        refine q_getf rfl rfl (by decide) rfl rfl ?_
        refine q_lconst rfl rfl ?_
        refine q_bipush rfl rfl ?_
        refine q_iload_n rfl rfl rfl ?_
        refine q_imul rfl rfl (q_tn (z := 20) rfl ?_)
        refine q_lload_n rfl rfl rfl ?_
        refine q_iload_n rfl rfl rfl ?_
        refine q_nS2 rfl rfl (Or.inl rfl) rfl rfl ⟨rfl, rfl⟩ rfl ?_
        change PQ _ _ _ mm_X0_place 0 [.long 0, pm_un, .int 2] [] _ _ 0 0 _
        refine q_lload_n rfl rfl rfl ?_
        refine q_bipush rfl rfl ?_
        refine q_iconst rfl rfl ?_
        refine q_iload_n rfl rfl rfl ?_
        refine q_imul rfl rfl (q_tn (z := 8) rfl ?_)
        refine q_iadd rfl rfl (q_tn (z := 44) rfl ?_)
        refine q_lushr rfl rfl (q_tnl (z := 0) rfl ?_)
        refine q_l2i rfl rfl (q_tn (z := 0) rfl ?_)
        refine q_bipush rfl rfl ?_
        refine q_iand rfl rfl (q_tn (z := 0) rfl ?_)
        refine q_iret rfl rfl trivial ?_
        refine ⟨_, rfl, ?_⟩
        refine q_iadd rfl rfl (q_tn (z := 20) rfl ?_)
        refine q_lshl rfl rfl (q_tnl (z := 1048576) rfl ?_)
        refine q_lor rfl rfl (q_tnl (z := 1049601) rfl ?_)
        refine q_putf rfl rfl (by decide) rfl (by decide) rfl trivial ?_
        refine q_icc3 (z := 3) rfl rfl rfl rfl rfl ?_
        refine q_goto rfl ?_
        refine q_iload_n rfl rfl rfl ?_
        refine q_iconst rfl rfl ?_
        refine q_icge rfl rfl (fun c337 => absurd c337 (by decide)) (fun c337 => ?_)
        refine q_aload_n rfl rfl rfl ?_
        refine q_dupr rfl rfl ?_
        refine q_getf rfl rfl (by decide) rfl rfl ?_
        refine q_lconst rfl rfl ?_
        refine q_bipush rfl rfl ?_
        refine q_iload_n rfl rfl rfl ?_
        refine q_imul rfl rfl (q_tn (z := 30) rfl ?_)
        refine q_lload_n rfl rfl rfl ?_
        refine q_iload_n rfl rfl rfl ?_
        refine q_nS2 rfl rfl (Or.inl rfl) rfl rfl ⟨rfl, rfl⟩ rfl ?_
        change PQ _ _ _ mm_X0_place 0 [.long 0, pm_un, .int 3] [] _ _ 0 0 _
        refine q_lload_n rfl rfl rfl ?_
        refine q_bipush rfl rfl ?_
        refine q_iconst rfl rfl ?_
        refine q_iload_n rfl rfl rfl ?_
        refine q_imul rfl rfl (q_tn (z := 12) rfl ?_)
        refine q_iadd rfl rfl (q_tn (z := 48) rfl ?_)
        refine q_lushr rfl rfl (q_tnl (z := 0) rfl ?_)
        refine q_l2i rfl rfl (q_tn (z := 0) rfl ?_)
        refine q_bipush rfl rfl ?_
        refine q_iand rfl rfl (q_tn (z := 0) rfl ?_)
        refine q_iret rfl rfl trivial ?_
        refine ⟨_, rfl, ?_⟩
        refine q_iadd rfl rfl (q_tn (z := 30) rfl ?_)
        refine q_lshl rfl rfl (q_tnl (z := 1073741824) rfl ?_)
        refine q_lor rfl rfl (q_tnl (z := 1074791425) rfl ?_)
        refine q_putf rfl rfl (by decide) rfl (by decide) rfl trivial ?_
        refine q_icc3 (z := 4) rfl rfl rfl rfl rfl ?_
        refine q_goto rfl ?_
        refine q_iload_n rfl rfl rfl ?_
        refine q_iconst rfl rfl ?_
        refine q_icge rfl rfl (fun c338 => ?_) (fun c338 => absurd (by decide) c338)
        refine q_ret rfl rfl ?_
        refine ⟨rfl, ?_⟩
        refine q_ret rfl rfl ?_
        refine ⟨rfl, ?_⟩
        refine q_aload_n rfl rfl rfl ?_
        refine q_getf rfl rfl (by decide) rfl rfl ?_
        refine q_ifne rfl rfl (fun c339 => ?_) (fun c339 => absurd (by decide) c339)
        refine q_iload_n rfl rfl rfl ?_
        refine q_ifeq rfl rfl (fun c340 => ?_) (fun c340 => absurd (by decide) c340)
        refine q_icc3 (z := 1) rfl rfl rfl rfl rfl ?_
        refine q_goto rfl ?_
        refine q_iload_n rfl rfl rfl ?_
        refine q_sipush rfl rfl ?_
        refine q_icge rfl rfl (fun c341 => absurd c341 (by decide)) (fun c341 => ?_)
        refine q_iload_n rfl rfl rfl ?_
        refine q_aload_n rfl rfl rfl ?_
        refine q_getf rfl rfl (by decide) rfl rfl ?_
        refine q_icge rfl rfl (fun c342 => ?_) (fun c342 => absurd (by decide) c342)
        refine q_ret rfl rfl ?_
        refine ⟨rfl, ?_⟩
        refine q_aload_n rfl rfl rfl ?_
        refine q_getf rfl rfl (by decide) (FW_0 S hW) rfl ?_
        refine q_iconst rfl rfl ?_
        refine q_putf rfl rfl (by decide) rfl (by decide) rfl trivial ?_
        refine q_aload_n rfl rfl rfl ?_
        refine q_getf rfl rfl (by decide) (FW_0 S hW) rfl ?_
        refine q_iload_n rfl rfl rfl ?_
        refine q_aload_n rfl rfl rfl ?_
        refine q_getf rfl rfl (by decide) rfl rfl ?_
        refine q_ifeq rfl rfl (fun c343 => ?_) (fun c343 => absurd (by decide) c343)
        refine q_aload_n rfl rfl rfl ?_
        refine q_getf rfl rfl (by decide) rfl rfl ?_
        refine q_iast rfl rfl (by decide) rfl (by decide) ?_
        refine q_aload_n rfl rfl rfl ?_
        refine q_getf rfl rfl (by decide) (FW_0 S hW) rfl ?_
        refine q_iload_n rfl rfl rfl ?_
        refine q_aload_n rfl rfl rfl ?_
        refine q_getf rfl rfl (by decide) rfl rfl ?_
        refine q_last rfl rfl (by decide) rfl (by decide) ?_
        refine q_aload_n rfl rfl rfl ?_
        refine q_getf rfl rfl (by decide) (FW_0 S hW) rfl ?_
        refine q_iload_n rfl rfl rfl ?_
        refine q_iald rfl rfl (by decide) rfl (by decide) (q_tn (z := 1) rfl ?_)
        refine q_iret rfl rfl trivial ?_
        refine ⟨_, rfl, ?_⟩
        refine q_bipush rfl rfl ?_
        refine q_icne rfl rfl (fun c344 => absurd c344 (by decide)) (fun c344 => ?_)
        refine q_iconst rfl rfl ?_
        refine q_ior rfl rfl (q_tn (z := 0) rfl ?_)
        refine q_ist1n rfl rfl rfl rfl ?_
        refine q_icc2 (z := 5) rfl rfl rfl rfl rfl ?_
        refine q_goto rfl ?_
        refine q_iload_n rfl rfl rfl ?_
        refine q_iconst rfl rfl ?_
        refine q_icge rfl rfl (fun c345 => ?_) (fun c345 => absurd (by decide) c345)
        refine q_iload_n rfl rfl rfl ?_
        refine q_iret rfl rfl rfl ?_
        refine ⟨_, rfl, ?_⟩
        refine q_ifeq rfl rfl (fun c346 => ?_) (fun c346 => absurd (by decide) c346)
        refine q_aload_n rfl rfl rfl ?_
        refine q_getf rfl rfl (by decide) (FW_0 S hW) rfl ?_
        refine q_aload_n rfl rfl rfl ?_
        refine q_getf rfl rfl (by decide) (FW_0 S hW) rfl ?_
        refine q_nV1 rfl rfl (Or.inl rfl) rfl rfl rfl (by decide) (FW_42 S hW) ⟨rfl, rfl⟩ rfl ?_
        change PQ _ _ _ mm_X3_bestQuestion 0 [.ref 42, .ref 45, pm_un, pm_un, pm_un, pm_un, pm_un] [] _ _ 0 0 _
        refine q_aload_n rfl rfl rfl ?_
        refine q_aload_n rfl rfl rfl ?_
        refine q_nV1 rfl rfl (Or.inl rfl) rfl rfl rfl (by decide) (FW_42 S hW) ⟨rfl, rfl⟩ rfl ?_
        change PQ _ _ _ mm_X3_cheapest 0 [.ref 42, .ref 45, pm_un, pm_un, pm_un, pm_un] [] _ _ 0 0 _
        refine q_bipush rfl rfl ?_
        refine q_ist2n rfl rfl rfl rfl ?_
        refine q_iconst rfl rfl ?_
        refine q_ist3n rfl rfl rfl rfl ?_
        refine q_iconst rfl rfl ?_
        refine q_ist4 rfl rfl rfl rfl ?_
        refine q_iload rfl rfl rfl ?_
        refine q_aload_n rfl rfl rfl ?_
        refine q_alen rfl rfl (by decide) rfl rfl (q_tn (z := 5) rfl ?_)
        refine q_icge rfl rfl (fun c347 => absurd c347 (by decide)) (fun c347 => ?_)
        refine q_aload_n rfl rfl rfl ?_
        refine q_aload_n rfl rfl rfl ?_
        refine q_iload rfl rfl rfl ?_
        refine q_lald rfl rfl (by decide) rfl (by decide) (q_tnl (z := 1074791425) rfl ?_)
        refine q_nV1 rfl rfl (Or.inl rfl) rfl rfl rfl (by decide) (FW_42 S hW) ⟨rfl, rfl⟩ rfl ?_
        change PQ _ _ _ mm_X3_costBy 0 [.ref 42, .long 1074791425, pm_un] [] _ _ 0 0 _
        refine q_lload_n rfl rfl rfl ?_
        refine q_aload_n rfl rfl rfl ?_
        refine q_getf rfl rfl (by decide) (FW_42 S hW) rfl ?_
        refine q_lxor rfl rfl (q_tnl (z := 1074791425) rfl ?_)
        refine q_aload_n rfl rfl rfl ?_
        refine q_getf rfl rfl (by decide) (FW_42 S hW) rfl ?_
        refine q_land rfl rfl (q_tnl (z := 0) rfl ?_)
        refine q_nS1 rfl rfl (Or.inl rfl) rfl rfl ⟨rfl, rfl⟩ rfl ?_
        change PQ _ _ _ mm_J13_bitCount_95d88 0 [.long 0, pm_un] [] _ _ 0 0 _
        refine q_lload_n rfl rfl rfl ?_
        refine q_lload_n rfl rfl rfl ?_
        refine q_iconst rfl rfl ?_
        refine q_lushr rfl rfl (q_tnl (z := 0) rfl ?_)
        refine q_ldc2 rfl rfl ?_
        refine q_land rfl rfl (q_tnl (z := 0) rfl ?_)
        refine q_lsub rfl rfl (q_tnl (z := 0) rfl ?_)
        refine q_lst0n rfl rfl rfl ?_
        refine q_lload_n rfl rfl rfl ?_
        refine q_ldc2 rfl rfl ?_
        refine q_land rfl rfl (q_tnl (z := 0) rfl ?_)
        refine q_lload_n rfl rfl rfl ?_
        refine q_iconst rfl rfl ?_
        refine q_lushr rfl rfl (q_tnl (z := 0) rfl ?_)
        refine q_ldc2 rfl rfl ?_
        refine q_land rfl rfl (q_tnl (z := 0) rfl ?_)
        refine q_ladd rfl rfl (q_tnl (z := 0) rfl ?_)
        refine q_lst0n rfl rfl rfl ?_
        refine q_lload_n rfl rfl rfl ?_
        refine q_lload_n rfl rfl rfl ?_
        refine q_iconst rfl rfl ?_
        refine q_lushr rfl rfl (q_tnl (z := 0) rfl ?_)
        refine q_ladd rfl rfl (q_tnl (z := 0) rfl ?_)
        refine q_ldc2 rfl rfl ?_
        refine q_land rfl rfl (q_tnl (z := 0) rfl ?_)
        refine q_lst0n rfl rfl rfl ?_
        refine q_lload_n rfl rfl rfl ?_
        refine q_lload_n rfl rfl rfl ?_
        refine q_bipush rfl rfl ?_
        refine q_lushr rfl rfl (q_tnl (z := 0) rfl ?_)
        refine q_ladd rfl rfl (q_tnl (z := 0) rfl ?_)
        refine q_lst0n rfl rfl rfl ?_
        refine q_lload_n rfl rfl rfl ?_
        refine q_lload_n rfl rfl rfl ?_
        refine q_bipush rfl rfl ?_
        refine q_lushr rfl rfl (q_tnl (z := 0) rfl ?_)
        refine q_ladd rfl rfl (q_tnl (z := 0) rfl ?_)
        refine q_lst0n rfl rfl rfl ?_
        refine q_lload_n rfl rfl rfl ?_
        refine q_lload_n rfl rfl rfl ?_
        refine q_bipush rfl rfl ?_
        refine q_lushr rfl rfl (q_tnl (z := 0) rfl ?_)
        refine q_ladd rfl rfl (q_tnl (z := 0) rfl ?_)
        refine q_lst0n rfl rfl rfl ?_
        refine q_lload_n rfl rfl rfl ?_
        refine q_l2i rfl rfl (q_tn (z := 0) rfl ?_)
        refine q_bipush rfl rfl ?_
        refine q_iand rfl rfl (q_tn (z := 0) rfl ?_)
        refine q_iret rfl rfl trivial ?_
        refine ⟨_, rfl, ?_⟩
        refine q_iret rfl rfl trivial ?_
        refine ⟨_, rfl, ?_⟩
        refine q_ist5 rfl rfl rfl rfl ?_
        refine q_iload rfl rfl rfl ?_
        refine q_iload_n rfl rfl rfl ?_
        refine q_icge rfl rfl (fun c348 => absurd c348 (by decide)) (fun c348 => ?_)
        refine q_iload rfl rfl rfl ?_
        refine q_ist2n rfl rfl rfl rfl ?_
        refine q_iconst rfl rfl ?_
        refine q_ist3n rfl rfl rfl rfl ?_
        refine q_iload rfl rfl rfl ?_
        refine q_iload_n rfl rfl rfl ?_
        refine q_icne rfl rfl (fun c349 => ?_) (fun c349 => absurd (by decide) c349)
        refine q_iload_n rfl rfl rfl ?_
        refine q_iconst rfl rfl ?_
        refine q_iload rfl rfl rfl ?_
        refine q_ishl rfl rfl (q_tn (z := 1) rfl ?_)
        refine q_ior rfl rfl (q_tn (z := 1) rfl ?_)
        refine q_ist3n rfl rfl rfl rfl ?_
        refine q_icc4 (z := 1) rfl rfl rfl rfl rfl ?_
        refine q_goto rfl ?_
        refine q_iload rfl rfl rfl ?_
        refine q_aload_n rfl rfl rfl ?_
        refine q_alen rfl rfl (by decide) rfl rfl (q_tn (z := 5) rfl ?_)
        refine q_icge rfl rfl (fun c350 => absurd c350 (by decide)) (fun c350 => ?_)
        refine q_aload_n rfl rfl rfl ?_
        refine q_aload_n rfl rfl rfl ?_
        refine q_iload rfl rfl rfl ?_
        refine q_lald rfl rfl (by decide) rfl (by decide) (q_tnl (z := 1074791425) rfl ?_)
        refine q_nV1 rfl rfl (Or.inl rfl) rfl rfl rfl (by decide) (FW_42 S hW) ⟨rfl, rfl⟩ rfl ?_
        change PQ _ _ _ mm_X3_costBy 0 [.ref 42, .long 1074791425, pm_un] [] _ _ 0 0 _
        refine q_lload_n rfl rfl rfl ?_
        refine q_aload_n rfl rfl rfl ?_
        refine q_getf rfl rfl (by decide) (FW_42 S hW) rfl ?_
        refine q_lxor rfl rfl (q_tnl (z := 1074791425) rfl ?_)
        refine q_aload_n rfl rfl rfl ?_
        refine q_getf rfl rfl (by decide) (FW_42 S hW) rfl ?_
        refine q_land rfl rfl (q_tnl (z := 0) rfl ?_)
        refine q_nS1 rfl rfl (Or.inl rfl) rfl rfl ⟨rfl, rfl⟩ rfl ?_
        change PQ _ _ _ mm_J13_bitCount_95d88 0 [.long 0, pm_un] [] _ _ 0 0 _
        refine q_lload_n rfl rfl rfl ?_
        refine q_lload_n rfl rfl rfl ?_
        refine q_iconst rfl rfl ?_
        refine q_lushr rfl rfl (q_tnl (z := 0) rfl ?_)
        refine q_ldc2 rfl rfl ?_
        refine q_land rfl rfl (q_tnl (z := 0) rfl ?_)
        refine q_lsub rfl rfl (q_tnl (z := 0) rfl ?_)
        refine q_lst0n rfl rfl rfl ?_
        refine q_lload_n rfl rfl rfl ?_
        refine q_ldc2 rfl rfl ?_
        refine q_land rfl rfl (q_tnl (z := 0) rfl ?_)
        refine q_lload_n rfl rfl rfl ?_
        refine q_iconst rfl rfl ?_
        refine q_lushr rfl rfl (q_tnl (z := 0) rfl ?_)
        refine q_ldc2 rfl rfl ?_
        refine q_land rfl rfl (q_tnl (z := 0) rfl ?_)
        refine q_ladd rfl rfl (q_tnl (z := 0) rfl ?_)
        refine q_lst0n rfl rfl rfl ?_
        refine q_lload_n rfl rfl rfl ?_
        refine q_lload_n rfl rfl rfl ?_
        refine q_iconst rfl rfl ?_
        refine q_lushr rfl rfl (q_tnl (z := 0) rfl ?_)
        refine q_ladd rfl rfl (q_tnl (z := 0) rfl ?_)
        refine q_ldc2 rfl rfl ?_
        refine q_land rfl rfl (q_tnl (z := 0) rfl ?_)
        refine q_lst0n rfl rfl rfl ?_
        refine q_lload_n rfl rfl rfl ?_
        refine q_lload_n rfl rfl rfl ?_
        refine q_bipush rfl rfl ?_
        refine q_lushr rfl rfl (q_tnl (z := 0) rfl ?_)
        refine q_ladd rfl rfl (q_tnl (z := 0) rfl ?_)
        refine q_lst0n rfl rfl rfl ?_
        refine q_lload_n rfl rfl rfl ?_
        refine q_lload_n rfl rfl rfl ?_
        refine q_bipush rfl rfl ?_
        refine q_lushr rfl rfl (q_tnl (z := 0) rfl ?_)
        refine q_ladd rfl rfl (q_tnl (z := 0) rfl ?_)
        refine q_lst0n rfl rfl rfl ?_
        refine q_lload_n rfl rfl rfl ?_
        refine q_lload_n rfl rfl rfl ?_
        refine q_bipush rfl rfl ?_
        refine q_lushr rfl rfl (q_tnl (z := 0) rfl ?_)
        refine q_ladd rfl rfl (q_tnl (z := 0) rfl ?_)
        refine q_lst0n rfl rfl rfl ?_
        refine q_lload_n rfl rfl rfl ?_
        refine q_l2i rfl rfl (q_tn (z := 0) rfl ?_)
        refine q_bipush rfl rfl ?_
        refine q_iand rfl rfl (q_tn (z := 0) rfl ?_)
        refine q_iret rfl rfl trivial ?_
        refine ⟨_, rfl, ?_⟩
        refine q_iret rfl rfl trivial ?_
        refine ⟨_, rfl, ?_⟩
        refine q_ist5 rfl rfl rfl rfl ?_
        refine q_iload rfl rfl rfl ?_
        refine q_iload_n rfl rfl rfl ?_
        refine q_icge rfl rfl (fun c351 => ?_) (fun c351 => absurd (by decide) c351)
        refine q_iload rfl rfl rfl ?_
        refine q_iload_n rfl rfl rfl ?_
        refine q_icne rfl rfl (fun c352 => ?_) (fun c352 => absurd (by decide) c352)
        refine q_iload_n rfl rfl rfl ?_
        refine q_iconst rfl rfl ?_
        refine q_iload rfl rfl rfl ?_
        refine q_ishl rfl rfl (q_tn (z := 2) rfl ?_)
        refine q_ior rfl rfl (q_tn (z := 3) rfl ?_)
        refine q_ist3n rfl rfl rfl rfl ?_
        refine q_icc4 (z := 2) rfl rfl rfl rfl rfl ?_
        refine q_goto rfl ?_
        refine q_iload rfl rfl rfl ?_
        refine q_aload_n rfl rfl rfl ?_
        refine q_alen rfl rfl (by decide) rfl rfl (q_tn (z := 5) rfl ?_)
        refine q_icge rfl rfl (fun c353 => absurd c353 (by decide)) (fun c353 => ?_)
        refine q_aload_n rfl rfl rfl ?_
        refine q_aload_n rfl rfl rfl ?_
        refine q_iload rfl rfl rfl ?_
        refine q_lald rfl rfl (by decide) rfl (by decide) (q_tnl (z := 1074791425) rfl ?_)
        refine q_nV1 rfl rfl (Or.inl rfl) rfl rfl rfl (by decide) (FW_42 S hW) ⟨rfl, rfl⟩ rfl ?_
        change PQ _ _ _ mm_X3_costBy 0 [.ref 42, .long 1074791425, pm_un] [] _ _ 0 0 _
        refine q_lload_n rfl rfl rfl ?_
        refine q_aload_n rfl rfl rfl ?_
        refine q_getf rfl rfl (by decide) (FW_42 S hW) rfl ?_
        refine q_lxor rfl rfl (q_tnl (z := 1074791425) rfl ?_)
        refine q_aload_n rfl rfl rfl ?_
        refine q_getf rfl rfl (by decide) (FW_42 S hW) rfl ?_
        refine q_land rfl rfl (q_tnl (z := 0) rfl ?_)
        refine q_nS1 rfl rfl (Or.inl rfl) rfl rfl ⟨rfl, rfl⟩ rfl ?_
        change PQ _ _ _ mm_J13_bitCount_95d88 0 [.long 0, pm_un] [] _ _ 0 0 _
        refine q_lload_n rfl rfl rfl ?_
        refine q_lload_n rfl rfl rfl ?_
        refine q_iconst rfl rfl ?_
        refine q_lushr rfl rfl (q_tnl (z := 0) rfl ?_)
        refine q_ldc2 rfl rfl ?_
        refine q_land rfl rfl (q_tnl (z := 0) rfl ?_)
        refine q_lsub rfl rfl (q_tnl (z := 0) rfl ?_)
        refine q_lst0n rfl rfl rfl ?_
        refine q_lload_n rfl rfl rfl ?_
        refine q_ldc2 rfl rfl ?_
        refine q_land rfl rfl (q_tnl (z := 0) rfl ?_)
        refine q_lload_n rfl rfl rfl ?_
        refine q_iconst rfl rfl ?_
        refine q_lushr rfl rfl (q_tnl (z := 0) rfl ?_)
        refine q_ldc2 rfl rfl ?_
        refine q_land rfl rfl (q_tnl (z := 0) rfl ?_)
        refine q_ladd rfl rfl (q_tnl (z := 0) rfl ?_)
        refine q_lst0n rfl rfl rfl ?_
        refine q_lload_n rfl rfl rfl ?_
        refine q_lload_n rfl rfl rfl ?_
        refine q_iconst rfl rfl ?_
        refine q_lushr rfl rfl (q_tnl (z := 0) rfl ?_)
        refine q_ladd rfl rfl (q_tnl (z := 0) rfl ?_)
        refine q_ldc2 rfl rfl ?_
        refine q_land rfl rfl (q_tnl (z := 0) rfl ?_)
        refine q_lst0n rfl rfl rfl ?_
        refine q_lload_n rfl rfl rfl ?_
        refine q_lload_n rfl rfl rfl ?_
        refine q_bipush rfl rfl ?_
        refine q_lushr rfl rfl (q_tnl (z := 0) rfl ?_)
        refine q_ladd rfl rfl (q_tnl (z := 0) rfl ?_)
        refine q_lst0n rfl rfl rfl ?_
        refine q_lload_n rfl rfl rfl ?_
        refine q_lload_n rfl rfl rfl ?_
        refine q_bipush rfl rfl ?_
        refine q_lushr rfl rfl (q_tnl (z := 0) rfl ?_)
        refine q_ladd rfl rfl (q_tnl (z := 0) rfl ?_)
        refine q_lst0n rfl rfl rfl ?_
        refine q_lload_n rfl rfl rfl ?_
        refine q_lload_n rfl rfl rfl ?_
        refine q_bipush rfl rfl ?_
        refine q_lushr rfl rfl (q_tnl (z := 0) rfl ?_)
        refine q_ladd rfl rfl (q_tnl (z := 0) rfl ?_)
        refine q_lst0n rfl rfl rfl ?_
        refine q_lload_n rfl rfl rfl ?_
        refine q_l2i rfl rfl (q_tn (z := 0) rfl ?_)
        refine q_bipush rfl rfl ?_
        refine q_iand rfl rfl (q_tn (z := 0) rfl ?_)
        refine q_iret rfl rfl trivial ?_
        refine ⟨_, rfl, ?_⟩
        refine q_iret rfl rfl trivial ?_
        refine ⟨_, rfl, ?_⟩
        refine q_ist5 rfl rfl rfl rfl ?_
        refine q_iload rfl rfl rfl ?_
        refine q_iload_n rfl rfl rfl ?_
        refine q_icge rfl rfl (fun c354 => ?_) (fun c354 => absurd (by decide) c354)
        refine q_iload rfl rfl rfl ?_
        refine q_iload_n rfl rfl rfl ?_
        refine q_icne rfl rfl (fun c355 => ?_) (fun c355 => absurd (by decide) c355)
        refine q_iload_n rfl rfl rfl ?_
        refine q_iconst rfl rfl ?_
        refine q_iload rfl rfl rfl ?_
        refine q_ishl rfl rfl (q_tn (z := 4) rfl ?_)
        refine q_ior rfl rfl (q_tn (z := 7) rfl ?_)
        refine q_ist3n rfl rfl rfl rfl ?_
        refine q_icc4 (z := 3) rfl rfl rfl rfl rfl ?_
        refine q_goto rfl ?_
        refine q_iload rfl rfl rfl ?_
        refine q_aload_n rfl rfl rfl ?_
        refine q_alen rfl rfl (by decide) rfl rfl (q_tn (z := 5) rfl ?_)
        refine q_icge rfl rfl (fun c356 => absurd c356 (by decide)) (fun c356 => ?_)
        refine q_aload_n rfl rfl rfl ?_
        refine q_aload_n rfl rfl rfl ?_
        refine q_iload rfl rfl rfl ?_
        refine q_lald rfl rfl (by decide) rfl (by decide) (q_tnl (z := 1074791425) rfl ?_)
        refine q_nV1 rfl rfl (Or.inl rfl) rfl rfl rfl (by decide) (FW_42 S hW) ⟨rfl, rfl⟩ rfl ?_
        change PQ _ _ _ mm_X3_costBy 0 [.ref 42, .long 1074791425, pm_un] [] _ _ 0 0 _
        refine q_lload_n rfl rfl rfl ?_
        refine q_aload_n rfl rfl rfl ?_
        refine q_getf rfl rfl (by decide) (FW_42 S hW) rfl ?_
        refine q_lxor rfl rfl (q_tnl (z := 1074791425) rfl ?_)
        refine q_aload_n rfl rfl rfl ?_
        refine q_getf rfl rfl (by decide) (FW_42 S hW) rfl ?_
        refine q_land rfl rfl (q_tnl (z := 0) rfl ?_)
        refine q_nS1 rfl rfl (Or.inl rfl) rfl rfl ⟨rfl, rfl⟩ rfl ?_
        change PQ _ _ _ mm_J13_bitCount_95d88 0 [.long 0, pm_un] [] _ _ 0 0 _
        refine q_lload_n rfl rfl rfl ?_
        refine q_lload_n rfl rfl rfl ?_
        refine q_iconst rfl rfl ?_
        refine q_lushr rfl rfl (q_tnl (z := 0) rfl ?_)
        refine q_ldc2 rfl rfl ?_
        refine q_land rfl rfl (q_tnl (z := 0) rfl ?_)
        refine q_lsub rfl rfl (q_tnl (z := 0) rfl ?_)
        refine q_lst0n rfl rfl rfl ?_
        refine q_lload_n rfl rfl rfl ?_
        refine q_ldc2 rfl rfl ?_
        refine q_land rfl rfl (q_tnl (z := 0) rfl ?_)
        refine q_lload_n rfl rfl rfl ?_
        refine q_iconst rfl rfl ?_
        refine q_lushr rfl rfl (q_tnl (z := 0) rfl ?_)
        refine q_ldc2 rfl rfl ?_
        refine q_land rfl rfl (q_tnl (z := 0) rfl ?_)
        refine q_ladd rfl rfl (q_tnl (z := 0) rfl ?_)
        refine q_lst0n rfl rfl rfl ?_
        refine q_lload_n rfl rfl rfl ?_
        refine q_lload_n rfl rfl rfl ?_
        refine q_iconst rfl rfl ?_
        refine q_lushr rfl rfl (q_tnl (z := 0) rfl ?_)
        refine q_ladd rfl rfl (q_tnl (z := 0) rfl ?_)
        refine q_ldc2 rfl rfl ?_
        refine q_land rfl rfl (q_tnl (z := 0) rfl ?_)
        refine q_lst0n rfl rfl rfl ?_
        refine q_lload_n rfl rfl rfl ?_
        refine q_lload_n rfl rfl rfl ?_
        refine q_bipush rfl rfl ?_
        refine q_lushr rfl rfl (q_tnl (z := 0) rfl ?_)
        refine q_ladd rfl rfl (q_tnl (z := 0) rfl ?_)
        refine q_lst0n rfl rfl rfl ?_
        refine q_lload_n rfl rfl rfl ?_
        refine q_lload_n rfl rfl rfl ?_
        refine q_bipush rfl rfl ?_
        refine q_lushr rfl rfl (q_tnl (z := 0) rfl ?_)
        refine q_ladd rfl rfl (q_tnl (z := 0) rfl ?_)
        refine q_lst0n rfl rfl rfl ?_
        refine q_lload_n rfl rfl rfl ?_
        refine q_lload_n rfl rfl rfl ?_
        refine q_bipush rfl rfl ?_
        refine q_lushr rfl rfl (q_tnl (z := 0) rfl ?_)
        refine q_ladd rfl rfl (q_tnl (z := 0) rfl ?_)
        refine q_lst0n rfl rfl rfl ?_
        refine q_lload_n rfl rfl rfl ?_
        refine q_l2i rfl rfl (q_tn (z := 0) rfl ?_)
        refine q_bipush rfl rfl ?_
        refine q_iand rfl rfl (q_tn (z := 0) rfl ?_)
        refine q_iret rfl rfl trivial ?_
        refine ⟨_, rfl, ?_⟩
        refine q_iret rfl rfl trivial ?_
        refine ⟨_, rfl, ?_⟩
        refine q_ist5 rfl rfl rfl rfl ?_
        refine q_iload rfl rfl rfl ?_
        refine q_iload_n rfl rfl rfl ?_
        as_aux_lemma =>
          refine q_icge rfl rfl (fun c357 => ?_) (fun c357 => absurd (by decide) c357)
          refine q_iload rfl rfl rfl ?_
          refine q_iload_n rfl rfl rfl ?_
          refine q_icne rfl rfl (fun c358 => ?_) (fun c358 => absurd (by decide) c358)
          refine q_iload_n rfl rfl rfl ?_
          refine q_iconst rfl rfl ?_
          refine q_iload rfl rfl rfl ?_
          refine q_ishl rfl rfl (q_tn (z := 8) rfl ?_)
          refine q_ior rfl rfl (q_tn (z := 15) rfl ?_)
          refine q_ist3n rfl rfl rfl rfl ?_
          refine q_icc4 (z := 4) rfl rfl rfl rfl rfl ?_
          refine q_goto rfl ?_
          refine q_iload rfl rfl rfl ?_
          refine q_aload_n rfl rfl rfl ?_
          refine q_alen rfl rfl (by decide) rfl rfl (q_tn (z := 5) rfl ?_)
          refine q_icge rfl rfl (fun c359 => absurd c359 (by decide)) (fun c359 => ?_)
          refine q_aload_n rfl rfl rfl ?_
          refine q_aload_n rfl rfl rfl ?_
          refine q_iload rfl rfl rfl ?_
          refine q_lald rfl rfl (by decide) rfl (by decide) (q_tnl (z := 1074791425) rfl ?_)
          refine q_nV1 rfl rfl (Or.inl rfl) rfl rfl rfl (by decide) (FW_42 S hW) ⟨rfl, rfl⟩ rfl ?_
          change PQ _ _ _ mm_X3_costBy 0 [.ref 42, .long 1074791425, pm_un] [] _ _ 0 0 _
          refine q_lload_n rfl rfl rfl ?_
          refine q_aload_n rfl rfl rfl ?_
          refine q_getf rfl rfl (by decide) (FW_42 S hW) rfl ?_
          refine q_lxor rfl rfl (q_tnl (z := 1074791425) rfl ?_)
          refine q_aload_n rfl rfl rfl ?_
          refine q_getf rfl rfl (by decide) (FW_42 S hW) rfl ?_
          refine q_land rfl rfl (q_tnl (z := 0) rfl ?_)
          refine q_nS1 rfl rfl (Or.inl rfl) rfl rfl ⟨rfl, rfl⟩ rfl ?_
          change PQ _ _ _ mm_J13_bitCount_95d88 0 [.long 0, pm_un] [] _ _ 0 0 _
          refine q_lload_n rfl rfl rfl ?_
          refine q_lload_n rfl rfl rfl ?_
          refine q_iconst rfl rfl ?_
          refine q_lushr rfl rfl (q_tnl (z := 0) rfl ?_)
          refine q_ldc2 rfl rfl ?_
          refine q_land rfl rfl (q_tnl (z := 0) rfl ?_)
          refine q_lsub rfl rfl (q_tnl (z := 0) rfl ?_)
          refine q_lst0n rfl rfl rfl ?_
          refine q_lload_n rfl rfl rfl ?_
          refine q_ldc2 rfl rfl ?_
          refine q_land rfl rfl (q_tnl (z := 0) rfl ?_)
          refine q_lload_n rfl rfl rfl ?_
          refine q_iconst rfl rfl ?_
          refine q_lushr rfl rfl (q_tnl (z := 0) rfl ?_)
          refine q_ldc2 rfl rfl ?_
          refine q_land rfl rfl (q_tnl (z := 0) rfl ?_)
          refine q_ladd rfl rfl (q_tnl (z := 0) rfl ?_)
          refine q_lst0n rfl rfl rfl ?_
          refine q_lload_n rfl rfl rfl ?_
          refine q_lload_n rfl rfl rfl ?_
          refine q_iconst rfl rfl ?_
          refine q_lushr rfl rfl (q_tnl (z := 0) rfl ?_)
          refine q_ladd rfl rfl (q_tnl (z := 0) rfl ?_)
          refine q_ldc2 rfl rfl ?_
          refine q_land rfl rfl (q_tnl (z := 0) rfl ?_)
          refine q_lst0n rfl rfl rfl ?_
          refine q_lload_n rfl rfl rfl ?_
          refine q_lload_n rfl rfl rfl ?_
          refine q_bipush rfl rfl ?_
          refine q_lushr rfl rfl (q_tnl (z := 0) rfl ?_)
          refine q_ladd rfl rfl (q_tnl (z := 0) rfl ?_)
          refine q_lst0n rfl rfl rfl ?_
          refine q_lload_n rfl rfl rfl ?_
          refine q_lload_n rfl rfl rfl ?_
          refine q_bipush rfl rfl ?_
          refine q_lushr rfl rfl (q_tnl (z := 0) rfl ?_)
          refine q_ladd rfl rfl (q_tnl (z := 0) rfl ?_)
          refine q_lst0n rfl rfl rfl ?_
          refine q_lload_n rfl rfl rfl ?_
          refine q_lload_n rfl rfl rfl ?_
          refine q_bipush rfl rfl ?_
          refine q_lushr rfl rfl (q_tnl (z := 0) rfl ?_)
          refine q_ladd rfl rfl (q_tnl (z := 0) rfl ?_)
          refine q_lst0n rfl rfl rfl ?_
          refine q_lload_n rfl rfl rfl ?_
          refine q_l2i rfl rfl (q_tn (z := 0) rfl ?_)
          refine q_bipush rfl rfl ?_
          refine q_iand rfl rfl (q_tn (z := 0) rfl ?_)
          refine q_iret rfl rfl trivial ?_
          refine ⟨_, rfl, ?_⟩
          refine q_iret rfl rfl trivial ?_
          refine ⟨_, rfl, ?_⟩
          refine q_ist5 rfl rfl rfl rfl ?_
          refine q_iload rfl rfl rfl ?_
          refine q_iload_n rfl rfl rfl ?_
          refine q_icge rfl rfl (fun c360 => ?_) (fun c360 => absurd (by decide) c360)
          refine q_iload rfl rfl rfl ?_
          refine q_iload_n rfl rfl rfl ?_
          refine q_icne rfl rfl (fun c361 => ?_) (fun c361 => absurd (by decide) c361)
          refine q_iload_n rfl rfl rfl ?_
          refine q_iconst rfl rfl ?_
          refine q_iload rfl rfl rfl ?_
          refine q_ishl rfl rfl (q_tn (z := 16) rfl ?_)
          refine q_ior rfl rfl (q_tn (z := 31) rfl ?_)
          refine q_ist3n rfl rfl rfl rfl ?_
          refine q_icc4 (z := 5) rfl rfl rfl rfl rfl ?_
          refine q_goto rfl ?_
          refine q_iload rfl rfl rfl ?_
          refine q_aload_n rfl rfl rfl ?_
          refine q_alen rfl rfl (by decide) rfl rfl (q_tn (z := 5) rfl ?_)
          refine q_icge rfl rfl (fun c362 => ?_) (fun c362 => absurd (by decide) c362)
          refine q_iload_n rfl rfl rfl ?_
          refine q_iret rfl rfl trivial ?_
          refine ⟨_, rfl, ?_⟩
          refine q_ist2n rfl rfl rfl rfl ?_
          refine q_bipush rfl rfl ?_
          refine q_ist3n rfl rfl rfl rfl ?_
          refine q_bipush rfl rfl ?_
          refine q_ist4 rfl rfl rfl rfl ?_
          refine q_iconst rfl rfl ?_
          refine q_ist5 rfl rfl rfl rfl ?_
          refine q_iload rfl rfl rfl ?_
          refine q_bipush rfl rfl ?_
          refine q_icge rfl rfl (fun c363 => absurd c363 (by decide)) (fun c363 => ?_)
          refine q_aload_n rfl rfl rfl ?_
          refine q_iload_n rfl rfl rfl ?_
          refine q_iload rfl rfl rfl ?_
          refine q_nS3 rfl rfl (Or.inl rfl) rfl rfl ⟨rfl, rfl⟩ rfl ?_
          change PQ _ _ _ mm_X3_greaterPart 0 [.ref 45, .int 31, .int 0, pm_un, pm_un] [] _ _ 0 0 _
          refine q_iconst rfl rfl ?_
          refine q_ist3n rfl rfl rfl rfl ?_
          refine q_iconst rfl rfl ?_
          refine q_ist4 rfl rfl rfl rfl ?_
          refine q_iload rfl rfl rfl ?_
          refine q_aload_n rfl rfl rfl ?_
          refine q_alen rfl rfl (by decide) rfl rfl (q_tn (z := 5) rfl ?_)
          refine q_icge rfl rfl (fun c364 => absurd c364 (by decide)) (fun c364 => ?_)
          refine q_iload_n rfl rfl rfl ?_
          refine q_iload rfl rfl rfl ?_
          refine q_iushr rfl rfl (q_tn (z := 31) rfl ?_)
          refine q_iconst rfl rfl ?_
          refine q_iand rfl rfl (q_tn (z := 1) rfl ?_)
          refine q_ifeq rfl rfl (fun c365 => absurd c365 (by decide)) (fun c365 => ?_)
          refine q_aload_n rfl rfl rfl ?_
          refine q_iload rfl rfl rfl ?_
          refine q_lald rfl rfl (by decide) rfl (by decide) (q_tnl (z := 1074791425) rfl ?_)
          refine q_iload_n rfl rfl rfl ?_
          refine q_nS2 rfl rfl (Or.inr rfl) rfl rfl ⟨rfl, rfl⟩ rfl ?_
          change PQ _ _ _ mm_X11_says 0 [.long 1074791425, pm_un, .int 0] [] _ _ 0 0 _
          refine q_lload_n rfl rfl rfl ?_
          refine q_iload_n rfl rfl rfl ?_
          refine q_lushr rfl rfl (q_tnl (z := 1074791425) rfl ?_)
          refine q_lconst rfl rfl ?_
          refine q_land rfl rfl (q_tnl (z := 1) rfl ?_)
          refine q_lconst rfl rfl ?_
          refine q_lcmp rfl rfl (q_tn (z := 1) rfl ?_)
          refine q_ifeq rfl rfl (fun c366 => absurd c366 (by decide)) (fun c366 => ?_)
          refine q_iconst rfl rfl ?_
          refine q_goto rfl ?_
          refine q_iret rfl rfl rfl ?_
          refine ⟨_, rfl, ?_⟩
          refine q_ifeq rfl rfl (fun c367 => absurd c367 (by decide)) (fun c367 => ?_)
          refine q_icc3 (z := 1) rfl rfl rfl rfl rfl ?_
          refine q_icc4 (z := 1) rfl rfl rfl rfl rfl ?_
          refine q_goto rfl ?_
          refine q_iload rfl rfl rfl ?_
          refine q_aload_n rfl rfl rfl ?_
          refine q_alen rfl rfl (by decide) rfl rfl (q_tn (z := 5) rfl ?_)
          refine q_icge rfl rfl (fun c368 => absurd c368 (by decide)) (fun c368 => ?_)
          refine q_iload_n rfl rfl rfl ?_
          refine q_iload rfl rfl rfl ?_
          refine q_iushr rfl rfl (q_tn (z := 15) rfl ?_)
          refine q_iconst rfl rfl ?_
          refine q_iand rfl rfl (q_tn (z := 1) rfl ?_)
          refine q_ifeq rfl rfl (fun c369 => absurd c369 (by decide)) (fun c369 => ?_)
          refine q_aload_n rfl rfl rfl ?_
          refine q_iload rfl rfl rfl ?_
          refine q_lald rfl rfl (by decide) rfl (by decide) (q_tnl (z := 1074791425) rfl ?_)
          refine q_iload_n rfl rfl rfl ?_
          refine q_nS2 rfl rfl (Or.inr rfl) rfl rfl ⟨rfl, rfl⟩ rfl ?_
          change PQ _ _ _ mm_X11_says 0 [.long 1074791425, pm_un, .int 0] [] _ _ 0 0 _
          refine q_lload_n rfl rfl rfl ?_
          refine q_iload_n rfl rfl rfl ?_
          refine q_lushr rfl rfl (q_tnl (z := 1074791425) rfl ?_)
          refine q_lconst rfl rfl ?_
          refine q_land rfl rfl (q_tnl (z := 1) rfl ?_)
          refine q_lconst rfl rfl ?_
          refine q_lcmp rfl rfl (q_tn (z := 1) rfl ?_)
          refine q_ifeq rfl rfl (fun c370 => absurd c370 (by decide)) (fun c370 => ?_)
          refine q_iconst rfl rfl ?_
          refine q_goto rfl ?_
          refine q_iret rfl rfl rfl ?_
          refine ⟨_, rfl, ?_⟩
          refine q_ifeq rfl rfl (fun c371 => absurd c371 (by decide)) (fun c371 => ?_)
          refine q_icc3 (z := 2) rfl rfl rfl rfl rfl ?_
          refine q_icc4 (z := 2) rfl rfl rfl rfl rfl ?_
          refine q_goto rfl ?_
          refine q_iload rfl rfl rfl ?_
          refine q_aload_n rfl rfl rfl ?_
          refine q_alen rfl rfl (by decide) rfl rfl (q_tn (z := 5) rfl ?_)
          refine q_icge rfl rfl (fun c372 => absurd c372 (by decide)) (fun c372 => ?_)
          refine q_iload_n rfl rfl rfl ?_
          refine q_iload rfl rfl rfl ?_
          refine q_iushr rfl rfl (q_tn (z := 7) rfl ?_)
          refine q_iconst rfl rfl ?_
          refine q_iand rfl rfl (q_tn (z := 1) rfl ?_)
          refine q_ifeq rfl rfl (fun c373 => absurd c373 (by decide)) (fun c373 => ?_)
          refine q_aload_n rfl rfl rfl ?_
          refine q_iload rfl rfl rfl ?_
          refine q_lald rfl rfl (by decide) rfl (by decide) (q_tnl (z := 1074791425) rfl ?_)
          refine q_iload_n rfl rfl rfl ?_
          refine q_nS2 rfl rfl (Or.inr rfl) rfl rfl ⟨rfl, rfl⟩ rfl ?_
          change PQ _ _ _ mm_X11_says 0 [.long 1074791425, pm_un, .int 0] [] _ _ 0 0 _
          refine q_lload_n rfl rfl rfl ?_
          refine q_iload_n rfl rfl rfl ?_
          refine q_lushr rfl rfl (q_tnl (z := 1074791425) rfl ?_)
          refine q_lconst rfl rfl ?_
          refine q_land rfl rfl (q_tnl (z := 1) rfl ?_)
          refine q_lconst rfl rfl ?_
          refine q_lcmp rfl rfl (q_tn (z := 1) rfl ?_)
          refine q_ifeq rfl rfl (fun c374 => absurd c374 (by decide)) (fun c374 => ?_)
          refine q_iconst rfl rfl ?_
          refine q_goto rfl ?_
          refine q_iret rfl rfl rfl ?_
          refine ⟨_, rfl, ?_⟩
          refine q_ifeq rfl rfl (fun c375 => absurd c375 (by decide)) (fun c375 => ?_)
          refine q_icc3 (z := 3) rfl rfl rfl rfl rfl ?_
          refine q_icc4 (z := 3) rfl rfl rfl rfl rfl ?_
          refine q_goto rfl ?_
          refine q_iload rfl rfl rfl ?_
          refine q_aload_n rfl rfl rfl ?_
          refine q_alen rfl rfl (by decide) rfl rfl (q_tn (z := 5) rfl ?_)
          refine q_icge rfl rfl (fun c376 => absurd c376 (by decide)) (fun c376 => ?_)
          refine q_iload_n rfl rfl rfl ?_
          refine q_iload rfl rfl rfl ?_
          refine q_iushr rfl rfl (q_tn (z := 3) rfl ?_)
          refine q_iconst rfl rfl ?_
          refine q_iand rfl rfl (q_tn (z := 1) rfl ?_)
          refine q_ifeq rfl rfl (fun c377 => absurd c377 (by decide)) (fun c377 => ?_)
          refine q_aload_n rfl rfl rfl ?_
          refine q_iload rfl rfl rfl ?_
          refine q_lald rfl rfl (by decide) rfl (by decide) (q_tnl (z := 1074791425) rfl ?_)
          refine q_iload_n rfl rfl rfl ?_
          refine q_nS2 rfl rfl (Or.inr rfl) rfl rfl ⟨rfl, rfl⟩ rfl ?_
          change PQ _ _ _ mm_X11_says 0 [.long 1074791425, pm_un, .int 0] [] _ _ 0 0 _
          refine q_lload_n rfl rfl rfl ?_
          refine q_iload_n rfl rfl rfl ?_
          refine q_lushr rfl rfl (q_tnl (z := 1074791425) rfl ?_)
          refine q_lconst rfl rfl ?_
          refine q_land rfl rfl (q_tnl (z := 1) rfl ?_)
          refine q_lconst rfl rfl ?_
          refine q_lcmp rfl rfl (q_tn (z := 1) rfl ?_)
          refine q_ifeq rfl rfl (fun c378 => absurd c378 (by decide)) (fun c378 => ?_)
          refine q_iconst rfl rfl ?_
          refine q_goto rfl ?_
          refine q_iret rfl rfl rfl ?_
          refine ⟨_, rfl, ?_⟩
          refine q_ifeq rfl rfl (fun c379 => absurd c379 (by decide)) (fun c379 => ?_)
          refine q_icc3 (z := 4) rfl rfl rfl rfl rfl ?_
          refine q_icc4 (z := 4) rfl rfl rfl rfl rfl ?_
          refine q_goto rfl ?_
          refine q_iload rfl rfl rfl ?_
          refine q_aload_n rfl rfl rfl ?_
          refine q_alen rfl rfl (by decide) rfl rfl (q_tn (z := 5) rfl ?_)
          refine q_icge rfl rfl (fun c380 => absurd c380 (by decide)) (fun c380 => ?_)
          refine q_iload_n rfl rfl rfl ?_
          refine q_iload rfl rfl rfl ?_
          refine q_iushr rfl rfl (q_tn (z := 1) rfl ?_)
          refine q_iconst rfl rfl ?_
          refine q_iand rfl rfl (q_tn (z := 1) rfl ?_)
          refine q_ifeq rfl rfl (fun c381 => absurd c381 (by decide)) (fun c381 => ?_)
          refine q_aload_n rfl rfl rfl ?_
          refine q_iload rfl rfl rfl ?_
          refine q_lald rfl rfl (by decide) rfl (by decide) (q_tnl (z := 1074791425) rfl ?_)
          refine q_iload_n rfl rfl rfl ?_
          refine q_nS2 rfl rfl (Or.inr rfl) rfl rfl ⟨rfl, rfl⟩ rfl ?_
          change PQ _ _ _ mm_X11_says 0 [.long 1074791425, pm_un, .int 0] [] _ _ 0 0 _
          refine q_lload_n rfl rfl rfl ?_
          refine q_iload_n rfl rfl rfl ?_
          refine q_lushr rfl rfl (q_tnl (z := 1074791425) rfl ?_)
          refine q_lconst rfl rfl ?_
          refine q_land rfl rfl (q_tnl (z := 1) rfl ?_)
          refine q_lconst rfl rfl ?_
          refine q_lcmp rfl rfl (q_tn (z := 1) rfl ?_)
          refine q_ifeq rfl rfl (fun c382 => absurd c382 (by decide)) (fun c382 => ?_)
          refine q_iconst rfl rfl ?_
          refine q_goto rfl ?_
          refine q_iret rfl rfl rfl ?_
          refine ⟨_, rfl, ?_⟩
          refine q_ifeq rfl rfl (fun c383 => absurd c383 (by decide)) (fun c383 => ?_)
          refine q_icc3 (z := 5) rfl rfl rfl rfl rfl ?_
          refine q_icc4 (z := 5) rfl rfl rfl rfl rfl ?_
          refine q_goto rfl ?_
          refine q_iload rfl rfl rfl ?_
          refine q_aload_n rfl rfl rfl ?_
          refine q_alen rfl rfl (by decide) rfl rfl (q_tn (z := 5) rfl ?_)
          refine q_icge rfl rfl (fun c384 => ?_) (fun c384 => absurd (by decide) c384)
          refine q_iload_n rfl rfl rfl ?_
          refine q_iload_n rfl rfl rfl ?_
          refine q_nS1 rfl rfl (Or.inl rfl) rfl rfl ⟨rfl, rfl⟩ rfl ?_
          change PQ _ _ _ mm_J6_bitCount_0f7a4 0 [.int 31] [] _ _ 0 0 _
          refine q_iload_n rfl rfl rfl ?_
          refine q_iload_n rfl rfl rfl ?_
          refine q_iconst rfl rfl ?_
          refine q_iushr rfl rfl (q_tn (z := 15) rfl ?_)
          refine q_ldcw rfl rfl ?_
          refine q_iand rfl rfl (q_tn (z := 5) rfl ?_)
          refine q_isub rfl rfl (q_tn (z := 26) rfl ?_)
          refine q_ist0n rfl rfl rfl ?_
          refine q_iload_n rfl rfl rfl ?_
          refine q_ldcw rfl rfl ?_
          refine q_iand rfl rfl (q_tn (z := 18) rfl ?_)
          refine q_iload_n rfl rfl rfl ?_
          refine q_iconst rfl rfl ?_
          refine q_iushr rfl rfl (q_tn (z := 6) rfl ?_)
          refine q_ldcw rfl rfl ?_
          refine q_iand rfl rfl (q_tn (z := 2) rfl ?_)
          refine q_iadd rfl rfl (q_tn (z := 20) rfl ?_)
          refine q_ist0n rfl rfl rfl ?_
          refine q_iload_n rfl rfl rfl ?_
          refine q_iload_n rfl rfl rfl ?_
          refine q_iconst rfl rfl ?_
          refine q_iushr rfl rfl (q_tn (z := 1) rfl ?_)
          refine q_iadd rfl rfl (q_tn (z := 21) rfl ?_)
          refine q_ldcw rfl rfl ?_
          refine q_iand rfl rfl (q_tn (z := 5) rfl ?_)
          refine q_ist0n rfl rfl rfl ?_
          refine q_iload_n rfl rfl rfl ?_
          refine q_iload_n rfl rfl rfl ?_
          refine q_bipush rfl rfl ?_
          refine q_iushr rfl rfl (q_tn (z := 0) rfl ?_)
          refine q_iadd rfl rfl (q_tn (z := 5) rfl ?_)
          refine q_ist0n rfl rfl rfl ?_
          refine q_iload_n rfl rfl rfl ?_
          refine q_iload_n rfl rfl rfl ?_
          refine q_bipush rfl rfl ?_
          refine q_iushr rfl rfl (q_tn (z := 0) rfl ?_)
          refine q_iadd rfl rfl (q_tn (z := 5) rfl ?_)
          refine q_ist0n rfl rfl rfl ?_
          refine q_iload_n rfl rfl rfl ?_
          refine q_bipush rfl rfl ?_
          refine q_iand rfl rfl (q_tn (z := 5) rfl ?_)
          refine q_iret rfl rfl trivial ?_
          refine ⟨_, rfl, ?_⟩
          refine q_iload_n rfl rfl rfl ?_
          refine q_isub rfl rfl (q_tn (z := 0) rfl ?_)
          refine q_mmax (z := 5) rfl om_gp rfl rfl rfl ?_
          refine q_iret rfl rfl trivial ?_
          refine ⟨_, rfl, ?_⟩
          refine q_ist6 rfl rfl rfl rfl ?_
          refine q_aload_n rfl rfl rfl ?_
          refine q_getf rfl rfl (by decide) (FW_42 S hW) rfl ?_
          refine q_iload rfl rfl rfl ?_
          refine q_nS2 rfl rfl (Or.inr rfl) rfl rfl ⟨rfl, rfl⟩ rfl ?_
          change PQ _ _ _ mm_X11_says 0 [.long 0, pm_un, .int 0] [] _ _ 0 0 _
          refine q_lload_n rfl rfl rfl ?_
          refine q_iload_n rfl rfl rfl ?_
          refine q_lushr rfl rfl (q_tnl (z := 0) rfl ?_)
          refine q_lconst rfl rfl ?_
          refine q_land rfl rfl (q_tnl (z := 0) rfl ?_)
          refine q_lconst rfl rfl ?_
          refine q_lcmp rfl rfl (q_tn (z := 0) rfl ?_)
          refine q_ifeq rfl rfl (fun c385 => ?_) (fun c385 => absurd (by decide) c385)
          refine q_iconst rfl rfl ?_
          refine q_iret rfl rfl rfl ?_
          refine ⟨_, rfl, ?_⟩
          refine q_ifne rfl rfl (fun c386 => ?_) (fun c386 => absurd (by decide) c386)
          refine q_iload rfl rfl rfl ?_
          refine q_iload rfl rfl rfl ?_
          refine q_icge rfl rfl (fun c387 => absurd c387 (by decide)) (fun c387 => ?_)
          refine q_iload rfl rfl rfl ?_
          refine q_ist4 rfl rfl rfl rfl ?_
          refine q_iload rfl rfl rfl ?_
          refine q_ist3n rfl rfl rfl rfl ?_
          refine q_icc5 (z := 1) rfl rfl rfl rfl rfl ?_
          refine q_goto rfl ?_
          refine q_iload rfl rfl rfl ?_
          refine q_bipush rfl rfl ?_
          refine q_icge rfl rfl (fun c388 => absurd c388 (by decide)) (fun c388 => ?_)
          refine q_aload_n rfl rfl rfl ?_
          refine q_iload_n rfl rfl rfl ?_
          refine q_iload rfl rfl rfl ?_
          refine q_nS3 rfl rfl (Or.inl rfl) rfl rfl ⟨rfl, rfl⟩ rfl ?_
          change PQ _ _ _ mm_X3_greaterPart 0 [.ref 45, .int 31, .int 1, pm_un, pm_un] [] _ _ 0 0 _
          refine q_iconst rfl rfl ?_
          refine q_ist3n rfl rfl rfl rfl ?_
          refine q_iconst rfl rfl ?_
          refine q_ist4 rfl rfl rfl rfl ?_
          refine q_iload rfl rfl rfl ?_
          refine q_aload_n rfl rfl rfl ?_
          refine q_alen rfl rfl (by decide) rfl rfl (q_tn (z := 5) rfl ?_)
          refine q_icge rfl rfl (fun c389 => absurd c389 (by decide)) (fun c389 => ?_)
          refine q_iload_n rfl rfl rfl ?_
          refine q_iload rfl rfl rfl ?_
          refine q_iushr rfl rfl (q_tn (z := 31) rfl ?_)
          refine q_iconst rfl rfl ?_
          refine q_iand rfl rfl (q_tn (z := 1) rfl ?_)
          refine q_ifeq rfl rfl (fun c390 => absurd c390 (by decide)) (fun c390 => ?_)
          refine q_aload_n rfl rfl rfl ?_
          refine q_iload rfl rfl rfl ?_
          refine q_lald rfl rfl (by decide) rfl (by decide) (q_tnl (z := 1074791425) rfl ?_)
          refine q_iload_n rfl rfl rfl ?_
          refine q_nS2 rfl rfl (Or.inr rfl) rfl rfl ⟨rfl, rfl⟩ rfl ?_
          change PQ _ _ _ mm_X11_says 0 [.long 1074791425, pm_un, .int 1] [] _ _ 0 0 _
          refine q_lload_n rfl rfl rfl ?_
          refine q_iload_n rfl rfl rfl ?_
          refine q_lushr rfl rfl (q_tnl (z := 537395712) rfl ?_)
          refine q_lconst rfl rfl ?_
          refine q_land rfl rfl (q_tnl (z := 0) rfl ?_)
          refine q_lconst rfl rfl ?_
          refine q_lcmp rfl rfl (q_tn (z := 0) rfl ?_)
          refine q_ifeq rfl rfl (fun c391 => ?_) (fun c391 => absurd (by decide) c391)
          refine q_iconst rfl rfl ?_
          refine q_iret rfl rfl rfl ?_
          refine ⟨_, rfl, ?_⟩
          refine q_ifeq rfl rfl (fun c392 => ?_) (fun c392 => absurd (by decide) c392)
          refine q_icc4 (z := 1) rfl rfl rfl rfl rfl ?_
          refine q_goto rfl ?_
          refine q_iload rfl rfl rfl ?_
          refine q_aload_n rfl rfl rfl ?_
          refine q_alen rfl rfl (by decide) rfl rfl (q_tn (z := 5) rfl ?_)
          refine q_icge rfl rfl (fun c393 => absurd c393 (by decide)) (fun c393 => ?_)
          refine q_iload_n rfl rfl rfl ?_
          refine q_iload rfl rfl rfl ?_
          refine q_iushr rfl rfl (q_tn (z := 15) rfl ?_)
          refine q_iconst rfl rfl ?_
          refine q_iand rfl rfl (q_tn (z := 1) rfl ?_)
          refine q_ifeq rfl rfl (fun c394 => absurd c394 (by decide)) (fun c394 => ?_)
          refine q_aload_n rfl rfl rfl ?_
          refine q_iload rfl rfl rfl ?_
          refine q_lald rfl rfl (by decide) rfl (by decide) (q_tnl (z := 1074791425) rfl ?_)
          refine q_iload_n rfl rfl rfl ?_
          refine q_nS2 rfl rfl (Or.inr rfl) rfl rfl ⟨rfl, rfl⟩ rfl ?_
          change PQ _ _ _ mm_X11_says 0 [.long 1074791425, pm_un, .int 1] [] _ _ 0 0 _
          refine q_lload_n rfl rfl rfl ?_
          refine q_iload_n rfl rfl rfl ?_
          refine q_lushr rfl rfl (q_tnl (z := 537395712) rfl ?_)
          refine q_lconst rfl rfl ?_
          refine q_land rfl rfl (q_tnl (z := 0) rfl ?_)
          refine q_lconst rfl rfl ?_
          refine q_lcmp rfl rfl (q_tn (z := 0) rfl ?_)
          refine q_ifeq rfl rfl (fun c395 => ?_) (fun c395 => absurd (by decide) c395)
          refine q_iconst rfl rfl ?_
          refine q_iret rfl rfl rfl ?_
          refine ⟨_, rfl, ?_⟩
          refine q_ifeq rfl rfl (fun c396 => ?_) (fun c396 => absurd (by decide) c396)
          refine q_icc4 (z := 2) rfl rfl rfl rfl rfl ?_
          refine q_goto rfl ?_
          refine q_iload rfl rfl rfl ?_
          refine q_aload_n rfl rfl rfl ?_
          refine q_alen rfl rfl (by decide) rfl rfl (q_tn (z := 5) rfl ?_)
          refine q_icge rfl rfl (fun c397 => absurd c397 (by decide)) (fun c397 => ?_)
          refine q_iload_n rfl rfl rfl ?_
          refine q_iload rfl rfl rfl ?_
          refine q_iushr rfl rfl (q_tn (z := 7) rfl ?_)
          refine q_iconst rfl rfl ?_
          refine q_iand rfl rfl (q_tn (z := 1) rfl ?_)
          refine q_ifeq rfl rfl (fun c398 => absurd c398 (by decide)) (fun c398 => ?_)
          refine q_aload_n rfl rfl rfl ?_
          refine q_iload rfl rfl rfl ?_
          refine q_lald rfl rfl (by decide) rfl (by decide) (q_tnl (z := 1074791425) rfl ?_)
          refine q_iload_n rfl rfl rfl ?_
          refine q_nS2 rfl rfl (Or.inr rfl) rfl rfl ⟨rfl, rfl⟩ rfl ?_
          change PQ _ _ _ mm_X11_says 0 [.long 1074791425, pm_un, .int 1] [] _ _ 0 0 _
          refine q_lload_n rfl rfl rfl ?_
          refine q_iload_n rfl rfl rfl ?_
          refine q_lushr rfl rfl (q_tnl (z := 537395712) rfl ?_)
          refine q_lconst rfl rfl ?_
          refine q_land rfl rfl (q_tnl (z := 0) rfl ?_)
          refine q_lconst rfl rfl ?_
          refine q_lcmp rfl rfl (q_tn (z := 0) rfl ?_)
          refine q_ifeq rfl rfl (fun c399 => ?_) (fun c399 => absurd (by decide) c399)
          refine q_iconst rfl rfl ?_
          refine q_iret rfl rfl rfl ?_
          refine ⟨_, rfl, ?_⟩
          refine q_ifeq rfl rfl (fun c400 => ?_) (fun c400 => absurd (by decide) c400)
          refine q_icc4 (z := 3) rfl rfl rfl rfl rfl ?_
          refine q_goto rfl ?_
          refine q_iload rfl rfl rfl ?_
          refine q_aload_n rfl rfl rfl ?_
          refine q_alen rfl rfl (by decide) rfl rfl (q_tn (z := 5) rfl ?_)
          refine q_icge rfl rfl (fun c401 => absurd c401 (by decide)) (fun c401 => ?_)
          refine q_iload_n rfl rfl rfl ?_
          refine q_iload rfl rfl rfl ?_
          refine q_iushr rfl rfl (q_tn (z := 3) rfl ?_)
          refine q_iconst rfl rfl ?_
          refine q_iand rfl rfl (q_tn (z := 1) rfl ?_)
          refine q_ifeq rfl rfl (fun c402 => absurd c402 (by decide)) (fun c402 => ?_)
          refine q_aload_n rfl rfl rfl ?_
          refine q_iload rfl rfl rfl ?_
          refine q_lald rfl rfl (by decide) rfl (by decide) (q_tnl (z := 1074791425) rfl ?_)
          refine q_iload_n rfl rfl rfl ?_
          refine q_nS2 rfl rfl (Or.inr rfl) rfl rfl ⟨rfl, rfl⟩ rfl ?_
          change PQ _ _ _ mm_X11_says 0 [.long 1074791425, pm_un, .int 1] [] _ _ 0 0 _
          refine q_lload_n rfl rfl rfl ?_
          refine q_iload_n rfl rfl rfl ?_
          refine q_lushr rfl rfl (q_tnl (z := 537395712) rfl ?_)
          refine q_lconst rfl rfl ?_
          refine q_land rfl rfl (q_tnl (z := 0) rfl ?_)
          refine q_lconst rfl rfl ?_
          refine q_lcmp rfl rfl (q_tn (z := 0) rfl ?_)
          refine q_ifeq rfl rfl (fun c403 => ?_) (fun c403 => absurd (by decide) c403)
          refine q_iconst rfl rfl ?_
          refine q_iret rfl rfl rfl ?_
          refine ⟨_, rfl, ?_⟩
          refine q_ifeq rfl rfl (fun c404 => ?_) (fun c404 => absurd (by decide) c404)
          refine q_icc4 (z := 4) rfl rfl rfl rfl rfl ?_
          refine q_goto rfl ?_
          refine q_iload rfl rfl rfl ?_
          refine q_aload_n rfl rfl rfl ?_
          refine q_alen rfl rfl (by decide) rfl rfl (q_tn (z := 5) rfl ?_)
          refine q_icge rfl rfl (fun c405 => absurd c405 (by decide)) (fun c405 => ?_)
          refine q_iload_n rfl rfl rfl ?_
          refine q_iload rfl rfl rfl ?_
          refine q_iushr rfl rfl (q_tn (z := 1) rfl ?_)
          refine q_iconst rfl rfl ?_
          refine q_iand rfl rfl (q_tn (z := 1) rfl ?_)
          refine q_ifeq rfl rfl (fun c406 => absurd c406 (by decide)) (fun c406 => ?_)
          refine q_aload_n rfl rfl rfl ?_
          refine q_iload rfl rfl rfl ?_
          refine q_lald rfl rfl (by decide) rfl (by decide) (q_tnl (z := 1074791425) rfl ?_)
          refine q_iload_n rfl rfl rfl ?_
          refine q_nS2 rfl rfl (Or.inr rfl) rfl rfl ⟨rfl, rfl⟩ rfl ?_
          change PQ _ _ _ mm_X11_says 0 [.long 1074791425, pm_un, .int 1] [] _ _ 0 0 _
          refine q_lload_n rfl rfl rfl ?_
          refine q_iload_n rfl rfl rfl ?_
          refine q_lushr rfl rfl (q_tnl (z := 537395712) rfl ?_)
          refine q_lconst rfl rfl ?_
          refine q_land rfl rfl (q_tnl (z := 0) rfl ?_)
          refine q_lconst rfl rfl ?_
          refine q_lcmp rfl rfl (q_tn (z := 0) rfl ?_)
          refine q_ifeq rfl rfl (fun c407 => ?_) (fun c407 => absurd (by decide) c407)
          refine q_iconst rfl rfl ?_
          refine q_iret rfl rfl rfl ?_
          refine ⟨_, rfl, ?_⟩
          refine q_ifeq rfl rfl (fun c408 => ?_) (fun c408 => absurd (by decide) c408)
          refine q_icc4 (z := 5) rfl rfl rfl rfl rfl ?_
          refine q_goto rfl ?_
          refine q_iload rfl rfl rfl ?_
          refine q_aload_n rfl rfl rfl ?_
          refine q_alen rfl rfl (by decide) rfl rfl (q_tn (z := 5) rfl ?_)
          refine q_icge rfl rfl (fun c409 => ?_) (fun c409 => absurd (by decide) c409)
          refine q_iload_n rfl rfl rfl ?_
          refine q_iload_n rfl rfl rfl ?_
          refine q_nS1 rfl rfl (Or.inl rfl) rfl rfl ⟨rfl, rfl⟩ rfl ?_
          change PQ _ _ _ mm_J6_bitCount_0f7a4 0 [.int 31] [] _ _ 0 0 _
          refine q_iload_n rfl rfl rfl ?_
          refine q_iload_n rfl rfl rfl ?_
          refine q_iconst rfl rfl ?_
          refine q_iushr rfl rfl (q_tn (z := 15) rfl ?_)
          refine q_ldcw rfl rfl ?_
          refine q_iand rfl rfl (q_tn (z := 5) rfl ?_)
          refine q_isub rfl rfl (q_tn (z := 26) rfl ?_)
          refine q_ist0n rfl rfl rfl ?_
          refine q_iload_n rfl rfl rfl ?_
          refine q_ldcw rfl rfl ?_
          refine q_iand rfl rfl (q_tn (z := 18) rfl ?_)
          refine q_iload_n rfl rfl rfl ?_
          refine q_iconst rfl rfl ?_
          refine q_iushr rfl rfl (q_tn (z := 6) rfl ?_)
          refine q_ldcw rfl rfl ?_
          refine q_iand rfl rfl (q_tn (z := 2) rfl ?_)
          refine q_iadd rfl rfl (q_tn (z := 20) rfl ?_)
          refine q_ist0n rfl rfl rfl ?_
          refine q_iload_n rfl rfl rfl ?_
          refine q_iload_n rfl rfl rfl ?_
          refine q_iconst rfl rfl ?_
          refine q_iushr rfl rfl (q_tn (z := 1) rfl ?_)
          refine q_iadd rfl rfl (q_tn (z := 21) rfl ?_)
          refine q_ldcw rfl rfl ?_
          refine q_iand rfl rfl (q_tn (z := 5) rfl ?_)
          refine q_ist0n rfl rfl rfl ?_
          refine q_iload_n rfl rfl rfl ?_
          refine q_iload_n rfl rfl rfl ?_
          refine q_bipush rfl rfl ?_
          refine q_iushr rfl rfl (q_tn (z := 0) rfl ?_)
          refine q_iadd rfl rfl (q_tn (z := 5) rfl ?_)
          refine q_ist0n rfl rfl rfl ?_
          refine q_iload_n rfl rfl rfl ?_
          refine q_iload_n rfl rfl rfl ?_
          refine q_bipush rfl rfl ?_
          refine q_iushr rfl rfl (q_tn (z := 0) rfl ?_)
          refine q_iadd rfl rfl (q_tn (z := 5) rfl ?_)
          refine q_ist0n rfl rfl rfl ?_
          refine q_iload_n rfl rfl rfl ?_
          refine q_bipush rfl rfl ?_
          refine q_iand rfl rfl (q_tn (z := 5) rfl ?_)
          refine q_iret rfl rfl trivial ?_
          refine ⟨_, rfl, ?_⟩
          refine q_iload_n rfl rfl rfl ?_
          refine q_isub rfl rfl (q_tn (z := 5) rfl ?_)
          refine q_mmax (z := 5) rfl om_gp rfl rfl rfl ?_
          refine q_iret rfl rfl trivial ?_
          refine ⟨_, rfl, ?_⟩
          refine q_ist6 rfl rfl rfl rfl ?_
          refine q_aload_n rfl rfl rfl ?_
          refine q_getf rfl rfl (by decide) (FW_42 S hW) rfl ?_
          refine q_iload rfl rfl rfl ?_
          refine q_nS2 rfl rfl (Or.inr rfl) rfl rfl ⟨rfl, rfl⟩ rfl ?_
          change PQ _ _ _ mm_X11_says 0 [.long 0, pm_un, .int 1] [] _ _ 0 0 _
          refine q_lload_n rfl rfl rfl ?_
          refine q_iload_n rfl rfl rfl ?_
          refine q_lushr rfl rfl (q_tnl (z := 0) rfl ?_)
          refine q_lconst rfl rfl ?_
          refine q_land rfl rfl (q_tnl (z := 0) rfl ?_)
          refine q_lconst rfl rfl ?_
          refine q_lcmp rfl rfl (q_tn (z := 0) rfl ?_)
          refine q_ifeq rfl rfl (fun c410 => ?_) (fun c410 => absurd (by decide) c410)
          refine q_iconst rfl rfl ?_
          refine q_iret rfl rfl rfl ?_
          refine ⟨_, rfl, ?_⟩
          refine q_ifne rfl rfl (fun c411 => ?_) (fun c411 => absurd (by decide) c411)
          refine q_iload rfl rfl rfl ?_
          refine q_iload rfl rfl rfl ?_
          refine q_icge rfl rfl (fun c412 => ?_) (fun c412 => absurd (by decide) c412)
          refine q_icc5 (z := 2) rfl rfl rfl rfl rfl ?_
          refine q_goto rfl ?_
          refine q_iload rfl rfl rfl ?_
          refine q_bipush rfl rfl ?_
          refine q_icge rfl rfl (fun c413 => absurd c413 (by decide)) (fun c413 => ?_)
          refine q_aload_n rfl rfl rfl ?_
          refine q_iload_n rfl rfl rfl ?_
          refine q_iload rfl rfl rfl ?_
          refine q_nS3 rfl rfl (Or.inl rfl) rfl rfl ⟨rfl, rfl⟩ rfl ?_
          change PQ _ _ _ mm_X3_greaterPart 0 [.ref 45, .int 31, .int 2, pm_un, pm_un] [] _ _ 0 0 _
          refine q_iconst rfl rfl ?_
          refine q_ist3n rfl rfl rfl rfl ?_
          refine q_iconst rfl rfl ?_
          refine q_ist4 rfl rfl rfl rfl ?_
          refine q_iload rfl rfl rfl ?_
          refine q_aload_n rfl rfl rfl ?_
          refine q_alen rfl rfl (by decide) rfl rfl (q_tn (z := 5) rfl ?_)
          refine q_icge rfl rfl (fun c414 => absurd c414 (by decide)) (fun c414 => ?_)
          refine q_iload_n rfl rfl rfl ?_
          refine q_iload rfl rfl rfl ?_
          refine q_iushr rfl rfl (q_tn (z := 31) rfl ?_)
          refine q_iconst rfl rfl ?_
          refine q_iand rfl rfl (q_tn (z := 1) rfl ?_)
          refine q_ifeq rfl rfl (fun c415 => absurd c415 (by decide)) (fun c415 => ?_)
          refine q_aload_n rfl rfl rfl ?_
          refine q_iload rfl rfl rfl ?_
          refine q_lald rfl rfl (by decide) rfl (by decide) (q_tnl (z := 1074791425) rfl ?_)
          refine q_iload_n rfl rfl rfl ?_
          refine q_nS2 rfl rfl (Or.inr rfl) rfl rfl ⟨rfl, rfl⟩ rfl ?_
          change PQ _ _ _ mm_X11_says 0 [.long 1074791425, pm_un, .int 2] [] _ _ 0 0 _
          refine q_lload_n rfl rfl rfl ?_
          refine q_iload_n rfl rfl rfl ?_
          refine q_lushr rfl rfl (q_tnl (z := 268697856) rfl ?_)
          refine q_lconst rfl rfl ?_
          refine q_land rfl rfl (q_tnl (z := 0) rfl ?_)
          refine q_lconst rfl rfl ?_
          refine q_lcmp rfl rfl (q_tn (z := 0) rfl ?_)
          refine q_ifeq rfl rfl (fun c416 => ?_) (fun c416 => absurd (by decide) c416)
          refine q_iconst rfl rfl ?_
          refine q_iret rfl rfl rfl ?_
          refine ⟨_, rfl, ?_⟩
          refine q_ifeq rfl rfl (fun c417 => ?_) (fun c417 => absurd (by decide) c417)
          refine q_icc4 (z := 1) rfl rfl rfl rfl rfl ?_
          refine q_goto rfl ?_
          refine q_iload rfl rfl rfl ?_
          refine q_aload_n rfl rfl rfl ?_
          refine q_alen rfl rfl (by decide) rfl rfl (q_tn (z := 5) rfl ?_)
          refine q_icge rfl rfl (fun c418 => absurd c418 (by decide)) (fun c418 => ?_)
          refine q_iload_n rfl rfl rfl ?_
          refine q_iload rfl rfl rfl ?_
          refine q_iushr rfl rfl (q_tn (z := 15) rfl ?_)
          refine q_iconst rfl rfl ?_
          refine q_iand rfl rfl (q_tn (z := 1) rfl ?_)
          refine q_ifeq rfl rfl (fun c419 => absurd c419 (by decide)) (fun c419 => ?_)
          refine q_aload_n rfl rfl rfl ?_
          refine q_iload rfl rfl rfl ?_
          refine q_lald rfl rfl (by decide) rfl (by decide) (q_tnl (z := 1074791425) rfl ?_)
          refine q_iload_n rfl rfl rfl ?_
          refine q_nS2 rfl rfl (Or.inr rfl) rfl rfl ⟨rfl, rfl⟩ rfl ?_
          change PQ _ _ _ mm_X11_says 0 [.long 1074791425, pm_un, .int 2] [] _ _ 0 0 _
          refine q_lload_n rfl rfl rfl ?_
          refine q_iload_n rfl rfl rfl ?_
          refine q_lushr rfl rfl (q_tnl (z := 268697856) rfl ?_)
          refine q_lconst rfl rfl ?_
          refine q_land rfl rfl (q_tnl (z := 0) rfl ?_)
          refine q_lconst rfl rfl ?_
          refine q_lcmp rfl rfl (q_tn (z := 0) rfl ?_)
          refine q_ifeq rfl rfl (fun c420 => ?_) (fun c420 => absurd (by decide) c420)
          refine q_iconst rfl rfl ?_
          refine q_iret rfl rfl rfl ?_
          refine ⟨_, rfl, ?_⟩
          refine q_ifeq rfl rfl (fun c421 => ?_) (fun c421 => absurd (by decide) c421)
          refine q_icc4 (z := 2) rfl rfl rfl rfl rfl ?_
          refine q_goto rfl ?_
          refine q_iload rfl rfl rfl ?_
          refine q_aload_n rfl rfl rfl ?_
          refine q_alen rfl rfl (by decide) rfl rfl (q_tn (z := 5) rfl ?_)
          refine q_icge rfl rfl (fun c422 => absurd c422 (by decide)) (fun c422 => ?_)
          refine q_iload_n rfl rfl rfl ?_
          refine q_iload rfl rfl rfl ?_
          refine q_iushr rfl rfl (q_tn (z := 7) rfl ?_)
          refine q_iconst rfl rfl ?_
          refine q_iand rfl rfl (q_tn (z := 1) rfl ?_)
          refine q_ifeq rfl rfl (fun c423 => absurd c423 (by decide)) (fun c423 => ?_)
          refine q_aload_n rfl rfl rfl ?_
          refine q_iload rfl rfl rfl ?_
          refine q_lald rfl rfl (by decide) rfl (by decide) (q_tnl (z := 1074791425) rfl ?_)
          refine q_iload_n rfl rfl rfl ?_
          refine q_nS2 rfl rfl (Or.inr rfl) rfl rfl ⟨rfl, rfl⟩ rfl ?_
          change PQ _ _ _ mm_X11_says 0 [.long 1074791425, pm_un, .int 2] [] _ _ 0 0 _
          refine q_lload_n rfl rfl rfl ?_
          refine q_iload_n rfl rfl rfl ?_
          refine q_lushr rfl rfl (q_tnl (z := 268697856) rfl ?_)
          refine q_lconst rfl rfl ?_
          refine q_land rfl rfl (q_tnl (z := 0) rfl ?_)
          refine q_lconst rfl rfl ?_
          refine q_lcmp rfl rfl (q_tn (z := 0) rfl ?_)
          refine q_ifeq rfl rfl (fun c424 => ?_) (fun c424 => absurd (by decide) c424)
          refine q_iconst rfl rfl ?_
          refine q_iret rfl rfl rfl ?_
          refine ⟨_, rfl, ?_⟩
          refine q_ifeq rfl rfl (fun c425 => ?_) (fun c425 => absurd (by decide) c425)
          refine q_icc4 (z := 3) rfl rfl rfl rfl rfl ?_
          refine q_goto rfl ?_
          refine q_iload rfl rfl rfl ?_
          refine q_aload_n rfl rfl rfl ?_
          refine q_alen rfl rfl (by decide) rfl rfl (q_tn (z := 5) rfl ?_)
          refine q_icge rfl rfl (fun c426 => absurd c426 (by decide)) (fun c426 => ?_)
          refine q_iload_n rfl rfl rfl ?_
          refine q_iload rfl rfl rfl ?_
          refine q_iushr rfl rfl (q_tn (z := 3) rfl ?_)
          refine q_iconst rfl rfl ?_
          refine q_iand rfl rfl (q_tn (z := 1) rfl ?_)
          refine q_ifeq rfl rfl (fun c427 => absurd c427 (by decide)) (fun c427 => ?_)
          refine q_aload_n rfl rfl rfl ?_
          refine q_iload rfl rfl rfl ?_
          refine q_lald rfl rfl (by decide) rfl (by decide) (q_tnl (z := 1074791425) rfl ?_)
          refine q_iload_n rfl rfl rfl ?_
          refine q_nS2 rfl rfl (Or.inr rfl) rfl rfl ⟨rfl, rfl⟩ rfl ?_
          change PQ _ _ _ mm_X11_says 0 [.long 1074791425, pm_un, .int 2] [] _ _ 0 0 _
          refine q_lload_n rfl rfl rfl ?_
          refine q_iload_n rfl rfl rfl ?_
          refine q_lushr rfl rfl (q_tnl (z := 268697856) rfl ?_)
          refine q_lconst rfl rfl ?_
          refine q_land rfl rfl (q_tnl (z := 0) rfl ?_)
          refine q_lconst rfl rfl ?_
          refine q_lcmp rfl rfl (q_tn (z := 0) rfl ?_)
          refine q_ifeq rfl rfl (fun c428 => ?_) (fun c428 => absurd (by decide) c428)
          refine q_iconst rfl rfl ?_
          refine q_iret rfl rfl rfl ?_
          refine ⟨_, rfl, ?_⟩
          refine q_ifeq rfl rfl (fun c429 => ?_) (fun c429 => absurd (by decide) c429)
          refine q_icc4 (z := 4) rfl rfl rfl rfl rfl ?_
          refine q_goto rfl ?_
          refine q_iload rfl rfl rfl ?_
          refine q_aload_n rfl rfl rfl ?_
          refine q_alen rfl rfl (by decide) rfl rfl (q_tn (z := 5) rfl ?_)
          refine q_icge rfl rfl (fun c430 => absurd c430 (by decide)) (fun c430 => ?_)
          refine q_iload_n rfl rfl rfl ?_
          refine q_iload rfl rfl rfl ?_
          refine q_iushr rfl rfl (q_tn (z := 1) rfl ?_)
          refine q_iconst rfl rfl ?_
          refine q_iand rfl rfl (q_tn (z := 1) rfl ?_)
          refine q_ifeq rfl rfl (fun c431 => absurd c431 (by decide)) (fun c431 => ?_)
          refine q_aload_n rfl rfl rfl ?_
          refine q_iload rfl rfl rfl ?_
          refine q_lald rfl rfl (by decide) rfl (by decide) (q_tnl (z := 1074791425) rfl ?_)
          refine q_iload_n rfl rfl rfl ?_
          refine q_nS2 rfl rfl (Or.inr rfl) rfl rfl ⟨rfl, rfl⟩ rfl ?_
          change PQ _ _ _ mm_X11_says 0 [.long 1074791425, pm_un, .int 2] [] _ _ 0 0 _
          refine q_lload_n rfl rfl rfl ?_
          refine q_iload_n rfl rfl rfl ?_
          refine q_lushr rfl rfl (q_tnl (z := 268697856) rfl ?_)
          refine q_lconst rfl rfl ?_
          refine q_land rfl rfl (q_tnl (z := 0) rfl ?_)
          refine q_lconst rfl rfl ?_
          refine q_lcmp rfl rfl (q_tn (z := 0) rfl ?_)
          refine q_ifeq rfl rfl (fun c432 => ?_) (fun c432 => absurd (by decide) c432)
          refine q_iconst rfl rfl ?_
          refine q_iret rfl rfl rfl ?_
          refine ⟨_, rfl, ?_⟩
          refine q_ifeq rfl rfl (fun c433 => ?_) (fun c433 => absurd (by decide) c433)
          refine q_icc4 (z := 5) rfl rfl rfl rfl rfl ?_
          refine q_goto rfl ?_
          refine q_iload rfl rfl rfl ?_
          refine q_aload_n rfl rfl rfl ?_
          refine q_alen rfl rfl (by decide) rfl rfl (q_tn (z := 5) rfl ?_)
          refine q_icge rfl rfl (fun c434 => ?_) (fun c434 => absurd (by decide) c434)
          refine q_iload_n rfl rfl rfl ?_
          refine q_iload_n rfl rfl rfl ?_
          refine q_nS1 rfl rfl (Or.inl rfl) rfl rfl ⟨rfl, rfl⟩ rfl ?_
          change PQ _ _ _ mm_J6_bitCount_0f7a4 0 [.int 31] [] _ _ 0 0 _
          refine q_iload_n rfl rfl rfl ?_
          refine q_iload_n rfl rfl rfl ?_
          refine q_iconst rfl rfl ?_
          refine q_iushr rfl rfl (q_tn (z := 15) rfl ?_)
          refine q_ldcw rfl rfl ?_
          refine q_iand rfl rfl (q_tn (z := 5) rfl ?_)
          refine q_isub rfl rfl (q_tn (z := 26) rfl ?_)
          refine q_ist0n rfl rfl rfl ?_
          refine q_iload_n rfl rfl rfl ?_
          refine q_ldcw rfl rfl ?_
          refine q_iand rfl rfl (q_tn (z := 18) rfl ?_)
          refine q_iload_n rfl rfl rfl ?_
          refine q_iconst rfl rfl ?_
          refine q_iushr rfl rfl (q_tn (z := 6) rfl ?_)
          refine q_ldcw rfl rfl ?_
          refine q_iand rfl rfl (q_tn (z := 2) rfl ?_)
          refine q_iadd rfl rfl (q_tn (z := 20) rfl ?_)
          refine q_ist0n rfl rfl rfl ?_
          refine q_iload_n rfl rfl rfl ?_
          refine q_iload_n rfl rfl rfl ?_
          refine q_iconst rfl rfl ?_
          refine q_iushr rfl rfl (q_tn (z := 1) rfl ?_)
          refine q_iadd rfl rfl (q_tn (z := 21) rfl ?_)
          refine q_ldcw rfl rfl ?_
          refine q_iand rfl rfl (q_tn (z := 5) rfl ?_)
          refine q_ist0n rfl rfl rfl ?_
          refine q_iload_n rfl rfl rfl ?_
          refine q_iload_n rfl rfl rfl ?_
          refine q_bipush rfl rfl ?_
          refine q_iushr rfl rfl (q_tn (z := 0) rfl ?_)
          refine q_iadd rfl rfl (q_tn (z := 5) rfl ?_)
          refine q_ist0n rfl rfl rfl ?_
          refine q_iload_n rfl rfl rfl ?_
          refine q_iload_n rfl rfl rfl ?_
          refine q_bipush rfl rfl ?_
          refine q_iushr rfl rfl (q_tn (z := 0) rfl ?_)
          refine q_iadd rfl rfl (q_tn (z := 5) rfl ?_)
          refine q_ist0n rfl rfl rfl ?_
          refine q_iload_n rfl rfl rfl ?_
          refine q_bipush rfl rfl ?_
          refine q_iand rfl rfl (q_tn (z := 5) rfl ?_)
          refine q_iret rfl rfl trivial ?_
          refine ⟨_, rfl, ?_⟩
          refine q_iload_n rfl rfl rfl ?_
          refine q_isub rfl rfl (q_tn (z := 5) rfl ?_)
          refine q_mmax (z := 5) rfl om_gp rfl rfl rfl ?_
          refine q_iret rfl rfl trivial ?_
          refine ⟨_, rfl, ?_⟩
          refine q_ist6 rfl rfl rfl rfl ?_
          refine q_aload_n rfl rfl rfl ?_
          refine q_getf rfl rfl (by decide) (FW_42 S hW) rfl ?_
          refine q_iload rfl rfl rfl ?_
          refine q_nS2 rfl rfl (Or.inr rfl) rfl rfl ⟨rfl, rfl⟩ rfl ?_
          change PQ _ _ _ mm_X11_says 0 [.long 0, pm_un, .int 2] [] _ _ 0 0 _
          refine q_lload_n rfl rfl rfl ?_
          refine q_iload_n rfl rfl rfl ?_
          refine q_lushr rfl rfl (q_tnl (z := 0) rfl ?_)
          refine q_lconst rfl rfl ?_
          refine q_land rfl rfl (q_tnl (z := 0) rfl ?_)
          refine q_lconst rfl rfl ?_
          refine q_lcmp rfl rfl (q_tn (z := 0) rfl ?_)
          refine q_ifeq rfl rfl (fun c435 => ?_) (fun c435 => absurd (by decide) c435)
          refine q_iconst rfl rfl ?_
          refine q_iret rfl rfl rfl ?_
          refine ⟨_, rfl, ?_⟩
          refine q_ifne rfl rfl (fun c436 => ?_) (fun c436 => absurd (by decide) c436)
          refine q_iload rfl rfl rfl ?_
          refine q_iload rfl rfl rfl ?_
          refine q_icge rfl rfl (fun c437 => ?_) (fun c437 => absurd (by decide) c437)
          refine q_icc5 (z := 3) rfl rfl rfl rfl rfl ?_
          refine q_goto rfl ?_
          refine q_iload rfl rfl rfl ?_
          refine q_bipush rfl rfl ?_
          refine q_icge rfl rfl (fun c438 => absurd c438 (by decide)) (fun c438 => ?_)
          refine q_aload_n rfl rfl rfl ?_
          refine q_iload_n rfl rfl rfl ?_
          refine q_iload rfl rfl rfl ?_
          refine q_nS3 rfl rfl (Or.inl rfl) rfl rfl ⟨rfl, rfl⟩ rfl ?_
          change PQ _ _ _ mm_X3_greaterPart 0 [.ref 45, .int 31, .int 3, pm_un, pm_un] [] _ _ 0 0 _
          refine q_iconst rfl rfl ?_
          refine q_ist3n rfl rfl rfl rfl ?_
          refine q_iconst rfl rfl ?_
          refine q_ist4 rfl rfl rfl rfl ?_
          refine q_iload rfl rfl rfl ?_
          refine q_aload_n rfl rfl rfl ?_
          refine q_alen rfl rfl (by decide) rfl rfl (q_tn (z := 5) rfl ?_)
          refine q_icge rfl rfl (fun c439 => absurd c439 (by decide)) (fun c439 => ?_)
          refine q_iload_n rfl rfl rfl ?_
          refine q_iload rfl rfl rfl ?_
          refine q_iushr rfl rfl (q_tn (z := 31) rfl ?_)
          refine q_iconst rfl rfl ?_
          refine q_iand rfl rfl (q_tn (z := 1) rfl ?_)
          refine q_ifeq rfl rfl (fun c440 => absurd c440 (by decide)) (fun c440 => ?_)
          refine q_aload_n rfl rfl rfl ?_
          refine q_iload rfl rfl rfl ?_
          refine q_lald rfl rfl (by decide) rfl (by decide) (q_tnl (z := 1074791425) rfl ?_)
          refine q_iload_n rfl rfl rfl ?_
          refine q_nS2 rfl rfl (Or.inr rfl) rfl rfl ⟨rfl, rfl⟩ rfl ?_
          change PQ _ _ _ mm_X11_says 0 [.long 1074791425, pm_un, .int 3] [] _ _ 0 0 _
          refine q_lload_n rfl rfl rfl ?_
          refine q_iload_n rfl rfl rfl ?_
          refine q_lushr rfl rfl (q_tnl (z := 134348928) rfl ?_)
          refine q_lconst rfl rfl ?_
          refine q_land rfl rfl (q_tnl (z := 0) rfl ?_)
          refine q_lconst rfl rfl ?_
          refine q_lcmp rfl rfl (q_tn (z := 0) rfl ?_)
          refine q_ifeq rfl rfl (fun c441 => ?_) (fun c441 => absurd (by decide) c441)
          refine q_iconst rfl rfl ?_
          refine q_iret rfl rfl rfl ?_
          refine ⟨_, rfl, ?_⟩
          refine q_ifeq rfl rfl (fun c442 => ?_) (fun c442 => absurd (by decide) c442)
          refine q_icc4 (z := 1) rfl rfl rfl rfl rfl ?_
          refine q_goto rfl ?_
          refine q_iload rfl rfl rfl ?_
          refine q_aload_n rfl rfl rfl ?_
          refine q_alen rfl rfl (by decide) rfl rfl (q_tn (z := 5) rfl ?_)
          refine q_icge rfl rfl (fun c443 => absurd c443 (by decide)) (fun c443 => ?_)
          refine q_iload_n rfl rfl rfl ?_
          refine q_iload rfl rfl rfl ?_
          refine q_iushr rfl rfl (q_tn (z := 15) rfl ?_)
          refine q_iconst rfl rfl ?_
          refine q_iand rfl rfl (q_tn (z := 1) rfl ?_)
          refine q_ifeq rfl rfl (fun c444 => absurd c444 (by decide)) (fun c444 => ?_)
          refine q_aload_n rfl rfl rfl ?_
          refine q_iload rfl rfl rfl ?_
          refine q_lald rfl rfl (by decide) rfl (by decide) (q_tnl (z := 1074791425) rfl ?_)
          refine q_iload_n rfl rfl rfl ?_
          refine q_nS2 rfl rfl (Or.inr rfl) rfl rfl ⟨rfl, rfl⟩ rfl ?_
          change PQ _ _ _ mm_X11_says 0 [.long 1074791425, pm_un, .int 3] [] _ _ 0 0 _
          refine q_lload_n rfl rfl rfl ?_
          refine q_iload_n rfl rfl rfl ?_
          refine q_lushr rfl rfl (q_tnl (z := 134348928) rfl ?_)
          refine q_lconst rfl rfl ?_
          refine q_land rfl rfl (q_tnl (z := 0) rfl ?_)
          refine q_lconst rfl rfl ?_
          refine q_lcmp rfl rfl (q_tn (z := 0) rfl ?_)
          refine q_ifeq rfl rfl (fun c445 => ?_) (fun c445 => absurd (by decide) c445)
          refine q_iconst rfl rfl ?_
          refine q_iret rfl rfl rfl ?_
          refine ⟨_, rfl, ?_⟩
          refine q_ifeq rfl rfl (fun c446 => ?_) (fun c446 => absurd (by decide) c446)
          refine q_icc4 (z := 2) rfl rfl rfl rfl rfl ?_
          refine q_goto rfl ?_
          refine q_iload rfl rfl rfl ?_
          refine q_aload_n rfl rfl rfl ?_
          refine q_alen rfl rfl (by decide) rfl rfl (q_tn (z := 5) rfl ?_)
          refine q_icge rfl rfl (fun c447 => absurd c447 (by decide)) (fun c447 => ?_)
          refine q_iload_n rfl rfl rfl ?_
          refine q_iload rfl rfl rfl ?_
          refine q_iushr rfl rfl (q_tn (z := 7) rfl ?_)
          refine q_iconst rfl rfl ?_
          refine q_iand rfl rfl (q_tn (z := 1) rfl ?_)
          refine q_ifeq rfl rfl (fun c448 => absurd c448 (by decide)) (fun c448 => ?_)
          refine q_aload_n rfl rfl rfl ?_
          refine q_iload rfl rfl rfl ?_
          refine q_lald rfl rfl (by decide) rfl (by decide) (q_tnl (z := 1074791425) rfl ?_)
          refine q_iload_n rfl rfl rfl ?_
          refine q_nS2 rfl rfl (Or.inr rfl) rfl rfl ⟨rfl, rfl⟩ rfl ?_
          change PQ _ _ _ mm_X11_says 0 [.long 1074791425, pm_un, .int 3] [] _ _ 0 0 _
          refine q_lload_n rfl rfl rfl ?_
          refine q_iload_n rfl rfl rfl ?_
          refine q_lushr rfl rfl (q_tnl (z := 134348928) rfl ?_)
          refine q_lconst rfl rfl ?_
          refine q_land rfl rfl (q_tnl (z := 0) rfl ?_)
          refine q_lconst rfl rfl ?_
          refine q_lcmp rfl rfl (q_tn (z := 0) rfl ?_)
          refine q_ifeq rfl rfl (fun c449 => ?_) (fun c449 => absurd (by decide) c449)
          refine q_iconst rfl rfl ?_
          refine q_iret rfl rfl rfl ?_
          refine ⟨_, rfl, ?_⟩
          refine q_ifeq rfl rfl (fun c450 => ?_) (fun c450 => absurd (by decide) c450)
          refine q_icc4 (z := 3) rfl rfl rfl rfl rfl ?_
          refine q_goto rfl ?_
          refine q_iload rfl rfl rfl ?_
          refine q_aload_n rfl rfl rfl ?_
          refine q_alen rfl rfl (by decide) rfl rfl (q_tn (z := 5) rfl ?_)
          refine q_icge rfl rfl (fun c451 => absurd c451 (by decide)) (fun c451 => ?_)
          refine q_iload_n rfl rfl rfl ?_
          refine q_iload rfl rfl rfl ?_
          refine q_iushr rfl rfl (q_tn (z := 3) rfl ?_)
          refine q_iconst rfl rfl ?_
          refine q_iand rfl rfl (q_tn (z := 1) rfl ?_)
          refine q_ifeq rfl rfl (fun c452 => absurd c452 (by decide)) (fun c452 => ?_)
          refine q_aload_n rfl rfl rfl ?_
          refine q_iload rfl rfl rfl ?_
          refine q_lald rfl rfl (by decide) rfl (by decide) (q_tnl (z := 1074791425) rfl ?_)
          refine q_iload_n rfl rfl rfl ?_
          refine q_nS2 rfl rfl (Or.inr rfl) rfl rfl ⟨rfl, rfl⟩ rfl ?_
          change PQ _ _ _ mm_X11_says 0 [.long 1074791425, pm_un, .int 3] [] _ _ 0 0 _
          refine q_lload_n rfl rfl rfl ?_
          refine q_iload_n rfl rfl rfl ?_
          refine q_lushr rfl rfl (q_tnl (z := 134348928) rfl ?_)
          refine q_lconst rfl rfl ?_
          refine q_land rfl rfl (q_tnl (z := 0) rfl ?_)
          refine q_lconst rfl rfl ?_
          refine q_lcmp rfl rfl (q_tn (z := 0) rfl ?_)
          refine q_ifeq rfl rfl (fun c453 => ?_) (fun c453 => absurd (by decide) c453)
          refine q_iconst rfl rfl ?_
          refine q_iret rfl rfl rfl ?_
          refine ⟨_, rfl, ?_⟩
          refine q_ifeq rfl rfl (fun c454 => ?_) (fun c454 => absurd (by decide) c454)
          refine q_icc4 (z := 4) rfl rfl rfl rfl rfl ?_
          refine q_goto rfl ?_
          refine q_iload rfl rfl rfl ?_
          refine q_aload_n rfl rfl rfl ?_
          refine q_alen rfl rfl (by decide) rfl rfl (q_tn (z := 5) rfl ?_)
          refine q_icge rfl rfl (fun c455 => absurd c455 (by decide)) (fun c455 => ?_)
          refine q_iload_n rfl rfl rfl ?_
          refine q_iload rfl rfl rfl ?_
          refine q_iushr rfl rfl (q_tn (z := 1) rfl ?_)
          refine q_iconst rfl rfl ?_
          refine q_iand rfl rfl (q_tn (z := 1) rfl ?_)
          refine q_ifeq rfl rfl (fun c456 => absurd c456 (by decide)) (fun c456 => ?_)
          refine q_aload_n rfl rfl rfl ?_
          refine q_iload rfl rfl rfl ?_
          refine q_lald rfl rfl (by decide) rfl (by decide) (q_tnl (z := 1074791425) rfl ?_)
          refine q_iload_n rfl rfl rfl ?_
          refine q_nS2 rfl rfl (Or.inr rfl) rfl rfl ⟨rfl, rfl⟩ rfl ?_
          change PQ _ _ _ mm_X11_says 0 [.long 1074791425, pm_un, .int 3] [] _ _ 0 0 _
          refine q_lload_n rfl rfl rfl ?_
          refine q_iload_n rfl rfl rfl ?_
          refine q_lushr rfl rfl (q_tnl (z := 134348928) rfl ?_)
          refine q_lconst rfl rfl ?_
          refine q_land rfl rfl (q_tnl (z := 0) rfl ?_)
          refine q_lconst rfl rfl ?_
          refine q_lcmp rfl rfl (q_tn (z := 0) rfl ?_)
          refine q_ifeq rfl rfl (fun c457 => ?_) (fun c457 => absurd (by decide) c457)
          refine q_iconst rfl rfl ?_
          refine q_iret rfl rfl rfl ?_
          refine ⟨_, rfl, ?_⟩
          refine q_ifeq rfl rfl (fun c458 => ?_) (fun c458 => absurd (by decide) c458)
          refine q_icc4 (z := 5) rfl rfl rfl rfl rfl ?_
          refine q_goto rfl ?_
          refine q_iload rfl rfl rfl ?_
          refine q_aload_n rfl rfl rfl ?_
          refine q_alen rfl rfl (by decide) rfl rfl (q_tn (z := 5) rfl ?_)
          refine q_icge rfl rfl (fun c459 => ?_) (fun c459 => absurd (by decide) c459)
          refine q_iload_n rfl rfl rfl ?_
          refine q_iload_n rfl rfl rfl ?_
          refine q_nS1 rfl rfl (Or.inl rfl) rfl rfl ⟨rfl, rfl⟩ rfl ?_
          change PQ _ _ _ mm_J6_bitCount_0f7a4 0 [.int 31] [] _ _ 0 0 _
          refine q_iload_n rfl rfl rfl ?_
          refine q_iload_n rfl rfl rfl ?_
          refine q_iconst rfl rfl ?_
          refine q_iushr rfl rfl (q_tn (z := 15) rfl ?_)
          refine q_ldcw rfl rfl ?_
          refine q_iand rfl rfl (q_tn (z := 5) rfl ?_)
          refine q_isub rfl rfl (q_tn (z := 26) rfl ?_)
          refine q_ist0n rfl rfl rfl ?_
          refine q_iload_n rfl rfl rfl ?_
          refine q_ldcw rfl rfl ?_
          refine q_iand rfl rfl (q_tn (z := 18) rfl ?_)
          refine q_iload_n rfl rfl rfl ?_
          refine q_iconst rfl rfl ?_
          refine q_iushr rfl rfl (q_tn (z := 6) rfl ?_)
          refine q_ldcw rfl rfl ?_
          refine q_iand rfl rfl (q_tn (z := 2) rfl ?_)
          refine q_iadd rfl rfl (q_tn (z := 20) rfl ?_)
          refine q_ist0n rfl rfl rfl ?_
          refine q_iload_n rfl rfl rfl ?_
          refine q_iload_n rfl rfl rfl ?_
          refine q_iconst rfl rfl ?_
          refine q_iushr rfl rfl (q_tn (z := 1) rfl ?_)
          refine q_iadd rfl rfl (q_tn (z := 21) rfl ?_)
          refine q_ldcw rfl rfl ?_
          refine q_iand rfl rfl (q_tn (z := 5) rfl ?_)
          refine q_ist0n rfl rfl rfl ?_
          refine q_iload_n rfl rfl rfl ?_
          refine q_iload_n rfl rfl rfl ?_
          refine q_bipush rfl rfl ?_
          refine q_iushr rfl rfl (q_tn (z := 0) rfl ?_)
          refine q_iadd rfl rfl (q_tn (z := 5) rfl ?_)
          refine q_ist0n rfl rfl rfl ?_
          refine q_iload_n rfl rfl rfl ?_
          refine q_iload_n rfl rfl rfl ?_
          refine q_bipush rfl rfl ?_
          refine q_iushr rfl rfl (q_tn (z := 0) rfl ?_)
          refine q_iadd rfl rfl (q_tn (z := 5) rfl ?_)
          refine q_ist0n rfl rfl rfl ?_
          refine q_iload_n rfl rfl rfl ?_
          refine q_bipush rfl rfl ?_
          refine q_iand rfl rfl (q_tn (z := 5) rfl ?_)
          refine q_iret rfl rfl trivial ?_
          refine ⟨_, rfl, ?_⟩
          refine q_iload_n rfl rfl rfl ?_
          refine q_isub rfl rfl (q_tn (z := 5) rfl ?_)
          refine q_mmax (z := 5) rfl om_gp rfl rfl rfl ?_
          refine q_iret rfl rfl trivial ?_
          refine ⟨_, rfl, ?_⟩
          refine q_ist6 rfl rfl rfl rfl ?_
          refine q_aload_n rfl rfl rfl ?_
          refine q_getf rfl rfl (by decide) (FW_42 S hW) rfl ?_
          refine q_iload rfl rfl rfl ?_
          refine q_nS2 rfl rfl (Or.inr rfl) rfl rfl ⟨rfl, rfl⟩ rfl ?_
          change PQ _ _ _ mm_X11_says 0 [.long 0, pm_un, .int 3] [] _ _ 0 0 _
          refine q_lload_n rfl rfl rfl ?_
          refine q_iload_n rfl rfl rfl ?_
          refine q_lushr rfl rfl (q_tnl (z := 0) rfl ?_)
          refine q_lconst rfl rfl ?_
          refine q_land rfl rfl (q_tnl (z := 0) rfl ?_)
          refine q_lconst rfl rfl ?_
          refine q_lcmp rfl rfl (q_tn (z := 0) rfl ?_)
          refine q_ifeq rfl rfl (fun c460 => ?_) (fun c460 => absurd (by decide) c460)
          refine q_iconst rfl rfl ?_
          refine q_iret rfl rfl rfl ?_
          refine ⟨_, rfl, ?_⟩
          refine q_ifne rfl rfl (fun c461 => ?_) (fun c461 => absurd (by decide) c461)
          refine q_iload rfl rfl rfl ?_
          refine q_iload rfl rfl rfl ?_
          refine q_icge rfl rfl (fun c462 => ?_) (fun c462 => absurd (by decide) c462)
          refine q_icc5 (z := 4) rfl rfl rfl rfl rfl ?_
          refine q_goto rfl ?_
          refine q_iload rfl rfl rfl ?_
          refine q_bipush rfl rfl ?_
          refine q_icge rfl rfl (fun c463 => absurd c463 (by decide)) (fun c463 => ?_)
          refine q_aload_n rfl rfl rfl ?_
          refine q_iload_n rfl rfl rfl ?_
          refine q_iload rfl rfl rfl ?_
          refine q_nS3 rfl rfl (Or.inl rfl) rfl rfl ⟨rfl, rfl⟩ rfl ?_
          change PQ _ _ _ mm_X3_greaterPart 0 [.ref 45, .int 31, .int 4, pm_un, pm_un] [] _ _ 0 0 _
          refine q_iconst rfl rfl ?_
          refine q_ist3n rfl rfl rfl rfl ?_
          refine q_iconst rfl rfl ?_
          refine q_ist4 rfl rfl rfl rfl ?_
          refine q_iload rfl rfl rfl ?_
          refine q_aload_n rfl rfl rfl ?_
          refine q_alen rfl rfl (by decide) rfl rfl (q_tn (z := 5) rfl ?_)
          refine q_icge rfl rfl (fun c464 => absurd c464 (by decide)) (fun c464 => ?_)
          refine q_iload_n rfl rfl rfl ?_
          refine q_iload rfl rfl rfl ?_
          refine q_iushr rfl rfl (q_tn (z := 31) rfl ?_)
          refine q_iconst rfl rfl ?_
          refine q_iand rfl rfl (q_tn (z := 1) rfl ?_)
          refine q_ifeq rfl rfl (fun c465 => absurd c465 (by decide)) (fun c465 => ?_)
          refine q_aload_n rfl rfl rfl ?_
          refine q_iload rfl rfl rfl ?_
          refine q_lald rfl rfl (by decide) rfl (by decide) (q_tnl (z := 1074791425) rfl ?_)
          refine q_iload_n rfl rfl rfl ?_
          refine q_nS2 rfl rfl (Or.inr rfl) rfl rfl ⟨rfl, rfl⟩ rfl ?_
          change PQ _ _ _ mm_X11_says 0 [.long 1074791425, pm_un, .int 4] [] _ _ 0 0 _
          refine q_lload_n rfl rfl rfl ?_
          refine q_iload_n rfl rfl rfl ?_
          refine q_lushr rfl rfl (q_tnl (z := 67174464) rfl ?_)
          refine q_lconst rfl rfl ?_
          refine q_land rfl rfl (q_tnl (z := 0) rfl ?_)
          refine q_lconst rfl rfl ?_
          refine q_lcmp rfl rfl (q_tn (z := 0) rfl ?_)
          refine q_ifeq rfl rfl (fun c466 => ?_) (fun c466 => absurd (by decide) c466)
          refine q_iconst rfl rfl ?_
          refine q_iret rfl rfl rfl ?_
          refine ⟨_, rfl, ?_⟩
          refine q_ifeq rfl rfl (fun c467 => ?_) (fun c467 => absurd (by decide) c467)
          refine q_icc4 (z := 1) rfl rfl rfl rfl rfl ?_
          refine q_goto rfl ?_
          refine q_iload rfl rfl rfl ?_
          refine q_aload_n rfl rfl rfl ?_
          refine q_alen rfl rfl (by decide) rfl rfl (q_tn (z := 5) rfl ?_)
          refine q_icge rfl rfl (fun c468 => absurd c468 (by decide)) (fun c468 => ?_)
          refine q_iload_n rfl rfl rfl ?_
          refine q_iload rfl rfl rfl ?_
          refine q_iushr rfl rfl (q_tn (z := 15) rfl ?_)
          refine q_iconst rfl rfl ?_
          refine q_iand rfl rfl (q_tn (z := 1) rfl ?_)
          refine q_ifeq rfl rfl (fun c469 => absurd c469 (by decide)) (fun c469 => ?_)
          refine q_aload_n rfl rfl rfl ?_
          refine q_iload rfl rfl rfl ?_
          refine q_lald rfl rfl (by decide) rfl (by decide) (q_tnl (z := 1074791425) rfl ?_)
          refine q_iload_n rfl rfl rfl ?_
          refine q_nS2 rfl rfl (Or.inr rfl) rfl rfl ⟨rfl, rfl⟩ rfl ?_
          change PQ _ _ _ mm_X11_says 0 [.long 1074791425, pm_un, .int 4] [] _ _ 0 0 _
          refine q_lload_n rfl rfl rfl ?_
          refine q_iload_n rfl rfl rfl ?_
          refine q_lushr rfl rfl (q_tnl (z := 67174464) rfl ?_)
          refine q_lconst rfl rfl ?_
          refine q_land rfl rfl (q_tnl (z := 0) rfl ?_)
          refine q_lconst rfl rfl ?_
          refine q_lcmp rfl rfl (q_tn (z := 0) rfl ?_)
          refine q_ifeq rfl rfl (fun c470 => ?_) (fun c470 => absurd (by decide) c470)
          refine q_iconst rfl rfl ?_
          refine q_iret rfl rfl rfl ?_
          refine ⟨_, rfl, ?_⟩
          refine q_ifeq rfl rfl (fun c471 => ?_) (fun c471 => absurd (by decide) c471)
          refine q_icc4 (z := 2) rfl rfl rfl rfl rfl ?_
          refine q_goto rfl ?_
          refine q_iload rfl rfl rfl ?_
          refine q_aload_n rfl rfl rfl ?_
          refine q_alen rfl rfl (by decide) rfl rfl (q_tn (z := 5) rfl ?_)
          refine q_icge rfl rfl (fun c472 => absurd c472 (by decide)) (fun c472 => ?_)
          refine q_iload_n rfl rfl rfl ?_
          refine q_iload rfl rfl rfl ?_
          refine q_iushr rfl rfl (q_tn (z := 7) rfl ?_)
          refine q_iconst rfl rfl ?_
          refine q_iand rfl rfl (q_tn (z := 1) rfl ?_)
          refine q_ifeq rfl rfl (fun c473 => absurd c473 (by decide)) (fun c473 => ?_)
          refine q_aload_n rfl rfl rfl ?_
          refine q_iload rfl rfl rfl ?_
          refine q_lald rfl rfl (by decide) rfl (by decide) (q_tnl (z := 1074791425) rfl ?_)
          refine q_iload_n rfl rfl rfl ?_
          refine q_nS2 rfl rfl (Or.inr rfl) rfl rfl ⟨rfl, rfl⟩ rfl ?_
          change PQ _ _ _ mm_X11_says 0 [.long 1074791425, pm_un, .int 4] [] _ _ 0 0 _
          refine q_lload_n rfl rfl rfl ?_
          refine q_iload_n rfl rfl rfl ?_
          refine q_lushr rfl rfl (q_tnl (z := 67174464) rfl ?_)
          refine q_lconst rfl rfl ?_
          refine q_land rfl rfl (q_tnl (z := 0) rfl ?_)
          refine q_lconst rfl rfl ?_
          refine q_lcmp rfl rfl (q_tn (z := 0) rfl ?_)
          refine q_ifeq rfl rfl (fun c474 => ?_) (fun c474 => absurd (by decide) c474)
          refine q_iconst rfl rfl ?_
          refine q_iret rfl rfl rfl ?_
          refine ⟨_, rfl, ?_⟩
          refine q_ifeq rfl rfl (fun c475 => ?_) (fun c475 => absurd (by decide) c475)
          refine q_icc4 (z := 3) rfl rfl rfl rfl rfl ?_
          refine q_goto rfl ?_
          refine q_iload rfl rfl rfl ?_
          refine q_aload_n rfl rfl rfl ?_
          refine q_alen rfl rfl (by decide) rfl rfl (q_tn (z := 5) rfl ?_)
          refine q_icge rfl rfl (fun c476 => absurd c476 (by decide)) (fun c476 => ?_)
          refine q_iload_n rfl rfl rfl ?_
          refine q_iload rfl rfl rfl ?_
          refine q_iushr rfl rfl (q_tn (z := 3) rfl ?_)
          refine q_iconst rfl rfl ?_
          as_aux_lemma =>
            refine q_iand rfl rfl (q_tn (z := 1) rfl ?_)
            refine q_ifeq rfl rfl (fun c477 => absurd c477 (by decide)) (fun c477 => ?_)
            refine q_aload_n rfl rfl rfl ?_
            refine q_iload rfl rfl rfl ?_
            refine q_lald rfl rfl (by decide) rfl (by decide) (q_tnl (z := 1074791425) rfl ?_)
            refine q_iload_n rfl rfl rfl ?_
            refine q_nS2 rfl rfl (Or.inr rfl) rfl rfl ⟨rfl, rfl⟩ rfl ?_
            change PQ _ _ _ mm_X11_says 0 [.long 1074791425, pm_un, .int 4] [] _ _ 0 0 _
            refine q_lload_n rfl rfl rfl ?_
            refine q_iload_n rfl rfl rfl ?_
            refine q_lushr rfl rfl (q_tnl (z := 67174464) rfl ?_)
            refine q_lconst rfl rfl ?_
            refine q_land rfl rfl (q_tnl (z := 0) rfl ?_)
            refine q_lconst rfl rfl ?_
            refine q_lcmp rfl rfl (q_tn (z := 0) rfl ?_)
            refine q_ifeq rfl rfl (fun c478 => ?_) (fun c478 => absurd (by decide) c478)
            refine q_iconst rfl rfl ?_
            refine q_iret rfl rfl rfl ?_
            refine ⟨_, rfl, ?_⟩
            refine q_ifeq rfl rfl (fun c479 => ?_) (fun c479 => absurd (by decide) c479)
            refine q_icc4 (z := 4) rfl rfl rfl rfl rfl ?_
            refine q_goto rfl ?_
            refine q_iload rfl rfl rfl ?_
            refine q_aload_n rfl rfl rfl ?_
            refine q_alen rfl rfl (by decide) rfl rfl (q_tn (z := 5) rfl ?_)
            refine q_icge rfl rfl (fun c480 => absurd c480 (by decide)) (fun c480 => ?_)
            refine q_iload_n rfl rfl rfl ?_
            refine q_iload rfl rfl rfl ?_
            refine q_iushr rfl rfl (q_tn (z := 1) rfl ?_)
            refine q_iconst rfl rfl ?_
            refine q_iand rfl rfl (q_tn (z := 1) rfl ?_)
            refine q_ifeq rfl rfl (fun c481 => absurd c481 (by decide)) (fun c481 => ?_)
            refine q_aload_n rfl rfl rfl ?_
            refine q_iload rfl rfl rfl ?_
            refine q_lald rfl rfl (by decide) rfl (by decide) (q_tnl (z := 1074791425) rfl ?_)
            refine q_iload_n rfl rfl rfl ?_
            refine q_nS2 rfl rfl (Or.inr rfl) rfl rfl ⟨rfl, rfl⟩ rfl ?_
            change PQ _ _ _ mm_X11_says 0 [.long 1074791425, pm_un, .int 4] [] _ _ 0 0 _
            refine q_lload_n rfl rfl rfl ?_
            refine q_iload_n rfl rfl rfl ?_
            refine q_lushr rfl rfl (q_tnl (z := 67174464) rfl ?_)
            refine q_lconst rfl rfl ?_
            refine q_land rfl rfl (q_tnl (z := 0) rfl ?_)
            refine q_lconst rfl rfl ?_
            refine q_lcmp rfl rfl (q_tn (z := 0) rfl ?_)
            refine q_ifeq rfl rfl (fun c482 => ?_) (fun c482 => absurd (by decide) c482)
            refine q_iconst rfl rfl ?_
            refine q_iret rfl rfl rfl ?_
            refine ⟨_, rfl, ?_⟩
            refine q_ifeq rfl rfl (fun c483 => ?_) (fun c483 => absurd (by decide) c483)
            refine q_icc4 (z := 5) rfl rfl rfl rfl rfl ?_
            refine q_goto rfl ?_
            refine q_iload rfl rfl rfl ?_
            refine q_aload_n rfl rfl rfl ?_
            refine q_alen rfl rfl (by decide) rfl rfl (q_tn (z := 5) rfl ?_)
            refine q_icge rfl rfl (fun c484 => ?_) (fun c484 => absurd (by decide) c484)
            refine q_iload_n rfl rfl rfl ?_
            refine q_iload_n rfl rfl rfl ?_
            refine q_nS1 rfl rfl (Or.inl rfl) rfl rfl ⟨rfl, rfl⟩ rfl ?_
            change PQ _ _ _ mm_J6_bitCount_0f7a4 0 [.int 31] [] _ _ 0 0 _
            refine q_iload_n rfl rfl rfl ?_
            refine q_iload_n rfl rfl rfl ?_
            refine q_iconst rfl rfl ?_
            refine q_iushr rfl rfl (q_tn (z := 15) rfl ?_)
            refine q_ldcw rfl rfl ?_
            refine q_iand rfl rfl (q_tn (z := 5) rfl ?_)
            refine q_isub rfl rfl (q_tn (z := 26) rfl ?_)
            refine q_ist0n rfl rfl rfl ?_
            refine q_iload_n rfl rfl rfl ?_
            refine q_ldcw rfl rfl ?_
            refine q_iand rfl rfl (q_tn (z := 18) rfl ?_)
            refine q_iload_n rfl rfl rfl ?_
            refine q_iconst rfl rfl ?_
            refine q_iushr rfl rfl (q_tn (z := 6) rfl ?_)
            refine q_ldcw rfl rfl ?_
            refine q_iand rfl rfl (q_tn (z := 2) rfl ?_)
            refine q_iadd rfl rfl (q_tn (z := 20) rfl ?_)
            refine q_ist0n rfl rfl rfl ?_
            refine q_iload_n rfl rfl rfl ?_
            refine q_iload_n rfl rfl rfl ?_
            refine q_iconst rfl rfl ?_
            refine q_iushr rfl rfl (q_tn (z := 1) rfl ?_)
            refine q_iadd rfl rfl (q_tn (z := 21) rfl ?_)
            refine q_ldcw rfl rfl ?_
            refine q_iand rfl rfl (q_tn (z := 5) rfl ?_)
            refine q_ist0n rfl rfl rfl ?_
            refine q_iload_n rfl rfl rfl ?_
            refine q_iload_n rfl rfl rfl ?_
            refine q_bipush rfl rfl ?_
            refine q_iushr rfl rfl (q_tn (z := 0) rfl ?_)
            refine q_iadd rfl rfl (q_tn (z := 5) rfl ?_)
            refine q_ist0n rfl rfl rfl ?_
            refine q_iload_n rfl rfl rfl ?_
            refine q_iload_n rfl rfl rfl ?_
            refine q_bipush rfl rfl ?_
            refine q_iushr rfl rfl (q_tn (z := 0) rfl ?_)
            refine q_iadd rfl rfl (q_tn (z := 5) rfl ?_)
            refine q_ist0n rfl rfl rfl ?_
            refine q_iload_n rfl rfl rfl ?_
            refine q_bipush rfl rfl ?_
            refine q_iand rfl rfl (q_tn (z := 5) rfl ?_)
            refine q_iret rfl rfl trivial ?_
            refine ⟨_, rfl, ?_⟩
            refine q_iload_n rfl rfl rfl ?_
            refine q_isub rfl rfl (q_tn (z := 5) rfl ?_)
            refine q_mmax (z := 5) rfl om_gp rfl rfl rfl ?_
            refine q_iret rfl rfl trivial ?_
            refine ⟨_, rfl, ?_⟩
            refine q_ist6 rfl rfl rfl rfl ?_
            refine q_aload_n rfl rfl rfl ?_
            refine q_getf rfl rfl (by decide) (FW_42 S hW) rfl ?_
            refine q_iload rfl rfl rfl ?_
            refine q_nS2 rfl rfl (Or.inr rfl) rfl rfl ⟨rfl, rfl⟩ rfl ?_
            change PQ _ _ _ mm_X11_says 0 [.long 0, pm_un, .int 4] [] _ _ 0 0 _
            refine q_lload_n rfl rfl rfl ?_
            refine q_iload_n rfl rfl rfl ?_
            refine q_lushr rfl rfl (q_tnl (z := 0) rfl ?_)
            refine q_lconst rfl rfl ?_
            refine q_land rfl rfl (q_tnl (z := 0) rfl ?_)
            refine q_lconst rfl rfl ?_
            refine q_lcmp rfl rfl (q_tn (z := 0) rfl ?_)
            refine q_ifeq rfl rfl (fun c485 => ?_) (fun c485 => absurd (by decide) c485)
            refine q_iconst rfl rfl ?_
            refine q_iret rfl rfl rfl ?_
            refine ⟨_, rfl, ?_⟩
            refine q_ifne rfl rfl (fun c486 => ?_) (fun c486 => absurd (by decide) c486)
            refine q_iload rfl rfl rfl ?_
            refine q_iload rfl rfl rfl ?_
            refine q_icge rfl rfl (fun c487 => ?_) (fun c487 => absurd (by decide) c487)
            refine q_icc5 (z := 5) rfl rfl rfl rfl rfl ?_
            refine q_goto rfl ?_
            refine q_iload rfl rfl rfl ?_
            refine q_bipush rfl rfl ?_
            refine q_icge rfl rfl (fun c488 => absurd c488 (by decide)) (fun c488 => ?_)
            refine q_aload_n rfl rfl rfl ?_
            refine q_iload_n rfl rfl rfl ?_
            refine q_iload rfl rfl rfl ?_
            refine q_nS3 rfl rfl (Or.inl rfl) rfl rfl ⟨rfl, rfl⟩ rfl ?_
            change PQ _ _ _ mm_X3_greaterPart 0 [.ref 45, .int 31, .int 5, pm_un, pm_un] [] _ _ 0 0 _
            refine q_iconst rfl rfl ?_
            refine q_ist3n rfl rfl rfl rfl ?_
            refine q_iconst rfl rfl ?_
            refine q_ist4 rfl rfl rfl rfl ?_
            refine q_iload rfl rfl rfl ?_
            refine q_aload_n rfl rfl rfl ?_
            refine q_alen rfl rfl (by decide) rfl rfl (q_tn (z := 5) rfl ?_)
            refine q_icge rfl rfl (fun c489 => absurd c489 (by decide)) (fun c489 => ?_)
            refine q_iload_n rfl rfl rfl ?_
            refine q_iload rfl rfl rfl ?_
            refine q_iushr rfl rfl (q_tn (z := 31) rfl ?_)
            refine q_iconst rfl rfl ?_
            refine q_iand rfl rfl (q_tn (z := 1) rfl ?_)
            refine q_ifeq rfl rfl (fun c490 => absurd c490 (by decide)) (fun c490 => ?_)
            refine q_aload_n rfl rfl rfl ?_
            refine q_iload rfl rfl rfl ?_
            refine q_lald rfl rfl (by decide) rfl (by decide) (q_tnl (z := 1074791425) rfl ?_)
            refine q_iload_n rfl rfl rfl ?_
            refine q_nS2 rfl rfl (Or.inr rfl) rfl rfl ⟨rfl, rfl⟩ rfl ?_
            change PQ _ _ _ mm_X11_says 0 [.long 1074791425, pm_un, .int 5] [] _ _ 0 0 _
            refine q_lload_n rfl rfl rfl ?_
            refine q_iload_n rfl rfl rfl ?_
            refine q_lushr rfl rfl (q_tnl (z := 33587232) rfl ?_)
            refine q_lconst rfl rfl ?_
            refine q_land rfl rfl (q_tnl (z := 0) rfl ?_)
            refine q_lconst rfl rfl ?_
            refine q_lcmp rfl rfl (q_tn (z := 0) rfl ?_)
            refine q_ifeq rfl rfl (fun c491 => ?_) (fun c491 => absurd (by decide) c491)
            refine q_iconst rfl rfl ?_
            refine q_iret rfl rfl rfl ?_
            refine ⟨_, rfl, ?_⟩
            refine q_ifeq rfl rfl (fun c492 => ?_) (fun c492 => absurd (by decide) c492)
            refine q_icc4 (z := 1) rfl rfl rfl rfl rfl ?_
            refine q_goto rfl ?_
            refine q_iload rfl rfl rfl ?_
            refine q_aload_n rfl rfl rfl ?_
            refine q_alen rfl rfl (by decide) rfl rfl (q_tn (z := 5) rfl ?_)
            refine q_icge rfl rfl (fun c493 => absurd c493 (by decide)) (fun c493 => ?_)
            refine q_iload_n rfl rfl rfl ?_
            refine q_iload rfl rfl rfl ?_
            refine q_iushr rfl rfl (q_tn (z := 15) rfl ?_)
            refine q_iconst rfl rfl ?_
            refine q_iand rfl rfl (q_tn (z := 1) rfl ?_)
            refine q_ifeq rfl rfl (fun c494 => absurd c494 (by decide)) (fun c494 => ?_)
            refine q_aload_n rfl rfl rfl ?_
            refine q_iload rfl rfl rfl ?_
            refine q_lald rfl rfl (by decide) rfl (by decide) (q_tnl (z := 1074791425) rfl ?_)
            refine q_iload_n rfl rfl rfl ?_
            refine q_nS2 rfl rfl (Or.inr rfl) rfl rfl ⟨rfl, rfl⟩ rfl ?_
            change PQ _ _ _ mm_X11_says 0 [.long 1074791425, pm_un, .int 5] [] _ _ 0 0 _
            refine q_lload_n rfl rfl rfl ?_
            refine q_iload_n rfl rfl rfl ?_
            refine q_lushr rfl rfl (q_tnl (z := 33587232) rfl ?_)
            refine q_lconst rfl rfl ?_
            refine q_land rfl rfl (q_tnl (z := 0) rfl ?_)
            refine q_lconst rfl rfl ?_
            refine q_lcmp rfl rfl (q_tn (z := 0) rfl ?_)
            refine q_ifeq rfl rfl (fun c495 => ?_) (fun c495 => absurd (by decide) c495)
            refine q_iconst rfl rfl ?_
            refine q_iret rfl rfl rfl ?_
            refine ⟨_, rfl, ?_⟩
            refine q_ifeq rfl rfl (fun c496 => ?_) (fun c496 => absurd (by decide) c496)
            refine q_icc4 (z := 2) rfl rfl rfl rfl rfl ?_
            refine q_goto rfl ?_
            refine q_iload rfl rfl rfl ?_
            refine q_aload_n rfl rfl rfl ?_
            refine q_alen rfl rfl (by decide) rfl rfl (q_tn (z := 5) rfl ?_)
            refine q_icge rfl rfl (fun c497 => absurd c497 (by decide)) (fun c497 => ?_)
            refine q_iload_n rfl rfl rfl ?_
            refine q_iload rfl rfl rfl ?_
            refine q_iushr rfl rfl (q_tn (z := 7) rfl ?_)
            refine q_iconst rfl rfl ?_
            refine q_iand rfl rfl (q_tn (z := 1) rfl ?_)
            refine q_ifeq rfl rfl (fun c498 => absurd c498 (by decide)) (fun c498 => ?_)
            refine q_aload_n rfl rfl rfl ?_
            refine q_iload rfl rfl rfl ?_
            refine q_lald rfl rfl (by decide) rfl (by decide) (q_tnl (z := 1074791425) rfl ?_)
            refine q_iload_n rfl rfl rfl ?_
            refine q_nS2 rfl rfl (Or.inr rfl) rfl rfl ⟨rfl, rfl⟩ rfl ?_
            change PQ _ _ _ mm_X11_says 0 [.long 1074791425, pm_un, .int 5] [] _ _ 0 0 _
            refine q_lload_n rfl rfl rfl ?_
            refine q_iload_n rfl rfl rfl ?_
            refine q_lushr rfl rfl (q_tnl (z := 33587232) rfl ?_)
            refine q_lconst rfl rfl ?_
            refine q_land rfl rfl (q_tnl (z := 0) rfl ?_)
            refine q_lconst rfl rfl ?_
            refine q_lcmp rfl rfl (q_tn (z := 0) rfl ?_)
            refine q_ifeq rfl rfl (fun c499 => ?_) (fun c499 => absurd (by decide) c499)
            refine q_iconst rfl rfl ?_
            refine q_iret rfl rfl rfl ?_
            refine ⟨_, rfl, ?_⟩
            refine q_ifeq rfl rfl (fun c500 => ?_) (fun c500 => absurd (by decide) c500)
            refine q_icc4 (z := 3) rfl rfl rfl rfl rfl ?_
            refine q_goto rfl ?_
            refine q_iload rfl rfl rfl ?_
            refine q_aload_n rfl rfl rfl ?_
            refine q_alen rfl rfl (by decide) rfl rfl (q_tn (z := 5) rfl ?_)
            refine q_icge rfl rfl (fun c501 => absurd c501 (by decide)) (fun c501 => ?_)
            refine q_iload_n rfl rfl rfl ?_
            refine q_iload rfl rfl rfl ?_
            refine q_iushr rfl rfl (q_tn (z := 3) rfl ?_)
            refine q_iconst rfl rfl ?_
            refine q_iand rfl rfl (q_tn (z := 1) rfl ?_)
            refine q_ifeq rfl rfl (fun c502 => absurd c502 (by decide)) (fun c502 => ?_)
            refine q_aload_n rfl rfl rfl ?_
            refine q_iload rfl rfl rfl ?_
            refine q_lald rfl rfl (by decide) rfl (by decide) (q_tnl (z := 1074791425) rfl ?_)
            refine q_iload_n rfl rfl rfl ?_
            refine q_nS2 rfl rfl (Or.inr rfl) rfl rfl ⟨rfl, rfl⟩ rfl ?_
            change PQ _ _ _ mm_X11_says 0 [.long 1074791425, pm_un, .int 5] [] _ _ 0 0 _
            refine q_lload_n rfl rfl rfl ?_
            refine q_iload_n rfl rfl rfl ?_
            refine q_lushr rfl rfl (q_tnl (z := 33587232) rfl ?_)
            refine q_lconst rfl rfl ?_
            refine q_land rfl rfl (q_tnl (z := 0) rfl ?_)
            refine q_lconst rfl rfl ?_
            refine q_lcmp rfl rfl (q_tn (z := 0) rfl ?_)
            refine q_ifeq rfl rfl (fun c503 => ?_) (fun c503 => absurd (by decide) c503)
            refine q_iconst rfl rfl ?_
            refine q_iret rfl rfl rfl ?_
            refine ⟨_, rfl, ?_⟩
            refine q_ifeq rfl rfl (fun c504 => ?_) (fun c504 => absurd (by decide) c504)
            refine q_icc4 (z := 4) rfl rfl rfl rfl rfl ?_
            refine q_goto rfl ?_
            refine q_iload rfl rfl rfl ?_
            refine q_aload_n rfl rfl rfl ?_
            refine q_alen rfl rfl (by decide) rfl rfl (q_tn (z := 5) rfl ?_)
            refine q_icge rfl rfl (fun c505 => absurd c505 (by decide)) (fun c505 => ?_)
            refine q_iload_n rfl rfl rfl ?_
            refine q_iload rfl rfl rfl ?_
            refine q_iushr rfl rfl (q_tn (z := 1) rfl ?_)
            refine q_iconst rfl rfl ?_
            refine q_iand rfl rfl (q_tn (z := 1) rfl ?_)
            refine q_ifeq rfl rfl (fun c506 => absurd c506 (by decide)) (fun c506 => ?_)
            refine q_aload_n rfl rfl rfl ?_
            refine q_iload rfl rfl rfl ?_
            refine q_lald rfl rfl (by decide) rfl (by decide) (q_tnl (z := 1074791425) rfl ?_)
            refine q_iload_n rfl rfl rfl ?_
            refine q_nS2 rfl rfl (Or.inr rfl) rfl rfl ⟨rfl, rfl⟩ rfl ?_
            change PQ _ _ _ mm_X11_says 0 [.long 1074791425, pm_un, .int 5] [] _ _ 0 0 _
            refine q_lload_n rfl rfl rfl ?_
            refine q_iload_n rfl rfl rfl ?_
            refine q_lushr rfl rfl (q_tnl (z := 33587232) rfl ?_)
            refine q_lconst rfl rfl ?_
            refine q_land rfl rfl (q_tnl (z := 0) rfl ?_)
            refine q_lconst rfl rfl ?_
            refine q_lcmp rfl rfl (q_tn (z := 0) rfl ?_)
            refine q_ifeq rfl rfl (fun c507 => ?_) (fun c507 => absurd (by decide) c507)
            refine q_iconst rfl rfl ?_
            refine q_iret rfl rfl rfl ?_
            refine ⟨_, rfl, ?_⟩
            refine q_ifeq rfl rfl (fun c508 => ?_) (fun c508 => absurd (by decide) c508)
            refine q_icc4 (z := 5) rfl rfl rfl rfl rfl ?_
            refine q_goto rfl ?_
            refine q_iload rfl rfl rfl ?_
            refine q_aload_n rfl rfl rfl ?_
            refine q_alen rfl rfl (by decide) rfl rfl (q_tn (z := 5) rfl ?_)
            refine q_icge rfl rfl (fun c509 => ?_) (fun c509 => absurd (by decide) c509)
            refine q_iload_n rfl rfl rfl ?_
            refine q_iload_n rfl rfl rfl ?_
            refine q_nS1 rfl rfl (Or.inl rfl) rfl rfl ⟨rfl, rfl⟩ rfl ?_
            change PQ _ _ _ mm_J6_bitCount_0f7a4 0 [.int 31] [] _ _ 0 0 _
            refine q_iload_n rfl rfl rfl ?_
            refine q_iload_n rfl rfl rfl ?_
            refine q_iconst rfl rfl ?_
            refine q_iushr rfl rfl (q_tn (z := 15) rfl ?_)
            refine q_ldcw rfl rfl ?_
            refine q_iand rfl rfl (q_tn (z := 5) rfl ?_)
            refine q_isub rfl rfl (q_tn (z := 26) rfl ?_)
            refine q_ist0n rfl rfl rfl ?_
            refine q_iload_n rfl rfl rfl ?_
            refine q_ldcw rfl rfl ?_
            refine q_iand rfl rfl (q_tn (z := 18) rfl ?_)
            refine q_iload_n rfl rfl rfl ?_
            refine q_iconst rfl rfl ?_
            refine q_iushr rfl rfl (q_tn (z := 6) rfl ?_)
            refine q_ldcw rfl rfl ?_
            refine q_iand rfl rfl (q_tn (z := 2) rfl ?_)
            refine q_iadd rfl rfl (q_tn (z := 20) rfl ?_)
            refine q_ist0n rfl rfl rfl ?_
            refine q_iload_n rfl rfl rfl ?_
            refine q_iload_n rfl rfl rfl ?_
            refine q_iconst rfl rfl ?_
            refine q_iushr rfl rfl (q_tn (z := 1) rfl ?_)
            refine q_iadd rfl rfl (q_tn (z := 21) rfl ?_)
            refine q_ldcw rfl rfl ?_
            refine q_iand rfl rfl (q_tn (z := 5) rfl ?_)
            refine q_ist0n rfl rfl rfl ?_
            refine q_iload_n rfl rfl rfl ?_
            refine q_iload_n rfl rfl rfl ?_
            refine q_bipush rfl rfl ?_
            refine q_iushr rfl rfl (q_tn (z := 0) rfl ?_)
            refine q_iadd rfl rfl (q_tn (z := 5) rfl ?_)
            refine q_ist0n rfl rfl rfl ?_
            refine q_iload_n rfl rfl rfl ?_
            refine q_iload_n rfl rfl rfl ?_
            refine q_bipush rfl rfl ?_
            refine q_iushr rfl rfl (q_tn (z := 0) rfl ?_)
            refine q_iadd rfl rfl (q_tn (z := 5) rfl ?_)
            refine q_ist0n rfl rfl rfl ?_
            refine q_iload_n rfl rfl rfl ?_
            refine q_bipush rfl rfl ?_
            refine q_iand rfl rfl (q_tn (z := 5) rfl ?_)
            refine q_iret rfl rfl trivial ?_
            refine ⟨_, rfl, ?_⟩
            refine q_iload_n rfl rfl rfl ?_
            refine q_isub rfl rfl (q_tn (z := 5) rfl ?_)
            refine q_mmax (z := 5) rfl om_gp rfl rfl rfl ?_
            refine q_iret rfl rfl trivial ?_
            refine ⟨_, rfl, ?_⟩
            refine q_ist6 rfl rfl rfl rfl ?_
            refine q_aload_n rfl rfl rfl ?_
            refine q_getf rfl rfl (by decide) (FW_42 S hW) rfl ?_
            refine q_iload rfl rfl rfl ?_
            refine q_nS2 rfl rfl (Or.inr rfl) rfl rfl ⟨rfl, rfl⟩ rfl ?_
            change PQ _ _ _ mm_X11_says 0 [.long 0, pm_un, .int 5] [] _ _ 0 0 _
            refine q_lload_n rfl rfl rfl ?_
            refine q_iload_n rfl rfl rfl ?_
            refine q_lushr rfl rfl (q_tnl (z := 0) rfl ?_)
            refine q_lconst rfl rfl ?_
            refine q_land rfl rfl (q_tnl (z := 0) rfl ?_)
            refine q_lconst rfl rfl ?_
            refine q_lcmp rfl rfl (q_tn (z := 0) rfl ?_)
            refine q_ifeq rfl rfl (fun c510 => ?_) (fun c510 => absurd (by decide) c510)
            refine q_iconst rfl rfl ?_
            refine q_iret rfl rfl rfl ?_
            refine ⟨_, rfl, ?_⟩
            refine q_ifne rfl rfl (fun c511 => ?_) (fun c511 => absurd (by decide) c511)
            refine q_iload rfl rfl rfl ?_
            refine q_iload rfl rfl rfl ?_
            refine q_icge rfl rfl (fun c512 => ?_) (fun c512 => absurd (by decide) c512)
            refine q_icc5 (z := 6) rfl rfl rfl rfl rfl ?_
            refine q_goto rfl ?_
            refine q_iload rfl rfl rfl ?_
            refine q_bipush rfl rfl ?_
            refine q_icge rfl rfl (fun c513 => absurd c513 (by decide)) (fun c513 => ?_)
            refine q_aload_n rfl rfl rfl ?_
            refine q_iload_n rfl rfl rfl ?_
            refine q_iload rfl rfl rfl ?_
            refine q_nS3 rfl rfl (Or.inl rfl) rfl rfl ⟨rfl, rfl⟩ rfl ?_
            change PQ _ _ _ mm_X3_greaterPart 0 [.ref 45, .int 31, .int 6, pm_un, pm_un] [] _ _ 0 0 _
            refine q_iconst rfl rfl ?_
            refine q_ist3n rfl rfl rfl rfl ?_
            refine q_iconst rfl rfl ?_
            refine q_ist4 rfl rfl rfl rfl ?_
            refine q_iload rfl rfl rfl ?_
            refine q_aload_n rfl rfl rfl ?_
            refine q_alen rfl rfl (by decide) rfl rfl (q_tn (z := 5) rfl ?_)
            refine q_icge rfl rfl (fun c514 => absurd c514 (by decide)) (fun c514 => ?_)
            refine q_iload_n rfl rfl rfl ?_
            refine q_iload rfl rfl rfl ?_
            refine q_iushr rfl rfl (q_tn (z := 31) rfl ?_)
            refine q_iconst rfl rfl ?_
            refine q_iand rfl rfl (q_tn (z := 1) rfl ?_)
            refine q_ifeq rfl rfl (fun c515 => absurd c515 (by decide)) (fun c515 => ?_)
            refine q_aload_n rfl rfl rfl ?_
            refine q_iload rfl rfl rfl ?_
            refine q_lald rfl rfl (by decide) rfl (by decide) (q_tnl (z := 1074791425) rfl ?_)
            refine q_iload_n rfl rfl rfl ?_
            refine q_nS2 rfl rfl (Or.inr rfl) rfl rfl ⟨rfl, rfl⟩ rfl ?_
            change PQ _ _ _ mm_X11_says 0 [.long 1074791425, pm_un, .int 6] [] _ _ 0 0 _
            refine q_lload_n rfl rfl rfl ?_
            refine q_iload_n rfl rfl rfl ?_
            refine q_lushr rfl rfl (q_tnl (z := 16793616) rfl ?_)
            refine q_lconst rfl rfl ?_
            refine q_land rfl rfl (q_tnl (z := 0) rfl ?_)
            refine q_lconst rfl rfl ?_
            refine q_lcmp rfl rfl (q_tn (z := 0) rfl ?_)
            refine q_ifeq rfl rfl (fun c516 => ?_) (fun c516 => absurd (by decide) c516)
            refine q_iconst rfl rfl ?_
            refine q_iret rfl rfl rfl ?_
            refine ⟨_, rfl, ?_⟩
            refine q_ifeq rfl rfl (fun c517 => ?_) (fun c517 => absurd (by decide) c517)
            refine q_icc4 (z := 1) rfl rfl rfl rfl rfl ?_
            refine q_goto rfl ?_
            refine q_iload rfl rfl rfl ?_
            refine q_aload_n rfl rfl rfl ?_
            refine q_alen rfl rfl (by decide) rfl rfl (q_tn (z := 5) rfl ?_)
            refine q_icge rfl rfl (fun c518 => absurd c518 (by decide)) (fun c518 => ?_)
            refine q_iload_n rfl rfl rfl ?_
            refine q_iload rfl rfl rfl ?_
            refine q_iushr rfl rfl (q_tn (z := 15) rfl ?_)
            refine q_iconst rfl rfl ?_
            refine q_iand rfl rfl (q_tn (z := 1) rfl ?_)
            refine q_ifeq rfl rfl (fun c519 => absurd c519 (by decide)) (fun c519 => ?_)
            refine q_aload_n rfl rfl rfl ?_
            refine q_iload rfl rfl rfl ?_
            refine q_lald rfl rfl (by decide) rfl (by decide) (q_tnl (z := 1074791425) rfl ?_)
            refine q_iload_n rfl rfl rfl ?_
            refine q_nS2 rfl rfl (Or.inr rfl) rfl rfl ⟨rfl, rfl⟩ rfl ?_
            change PQ _ _ _ mm_X11_says 0 [.long 1074791425, pm_un, .int 6] [] _ _ 0 0 _
            refine q_lload_n rfl rfl rfl ?_
            refine q_iload_n rfl rfl rfl ?_
            refine q_lushr rfl rfl (q_tnl (z := 16793616) rfl ?_)
            refine q_lconst rfl rfl ?_
            refine q_land rfl rfl (q_tnl (z := 0) rfl ?_)
            refine q_lconst rfl rfl ?_
            refine q_lcmp rfl rfl (q_tn (z := 0) rfl ?_)
            refine q_ifeq rfl rfl (fun c520 => ?_) (fun c520 => absurd (by decide) c520)
            refine q_iconst rfl rfl ?_
            refine q_iret rfl rfl rfl ?_
            refine ⟨_, rfl, ?_⟩
            refine q_ifeq rfl rfl (fun c521 => ?_) (fun c521 => absurd (by decide) c521)
            refine q_icc4 (z := 2) rfl rfl rfl rfl rfl ?_
            refine q_goto rfl ?_
            refine q_iload rfl rfl rfl ?_
            refine q_aload_n rfl rfl rfl ?_
            refine q_alen rfl rfl (by decide) rfl rfl (q_tn (z := 5) rfl ?_)
            refine q_icge rfl rfl (fun c522 => absurd c522 (by decide)) (fun c522 => ?_)
            refine q_iload_n rfl rfl rfl ?_
            refine q_iload rfl rfl rfl ?_
            refine q_iushr rfl rfl (q_tn (z := 7) rfl ?_)
            refine q_iconst rfl rfl ?_
            refine q_iand rfl rfl (q_tn (z := 1) rfl ?_)
            refine q_ifeq rfl rfl (fun c523 => absurd c523 (by decide)) (fun c523 => ?_)
            refine q_aload_n rfl rfl rfl ?_
            refine q_iload rfl rfl rfl ?_
            refine q_lald rfl rfl (by decide) rfl (by decide) (q_tnl (z := 1074791425) rfl ?_)
            refine q_iload_n rfl rfl rfl ?_
            refine q_nS2 rfl rfl (Or.inr rfl) rfl rfl ⟨rfl, rfl⟩ rfl ?_
            change PQ _ _ _ mm_X11_says 0 [.long 1074791425, pm_un, .int 6] [] _ _ 0 0 _
            refine q_lload_n rfl rfl rfl ?_
            refine q_iload_n rfl rfl rfl ?_
            refine q_lushr rfl rfl (q_tnl (z := 16793616) rfl ?_)
            refine q_lconst rfl rfl ?_
            refine q_land rfl rfl (q_tnl (z := 0) rfl ?_)
            refine q_lconst rfl rfl ?_
            refine q_lcmp rfl rfl (q_tn (z := 0) rfl ?_)
            refine q_ifeq rfl rfl (fun c524 => ?_) (fun c524 => absurd (by decide) c524)
            refine q_iconst rfl rfl ?_
            refine q_iret rfl rfl rfl ?_
            refine ⟨_, rfl, ?_⟩
            refine q_ifeq rfl rfl (fun c525 => ?_) (fun c525 => absurd (by decide) c525)
            refine q_icc4 (z := 3) rfl rfl rfl rfl rfl ?_
            refine q_goto rfl ?_
            refine q_iload rfl rfl rfl ?_
            refine q_aload_n rfl rfl rfl ?_
            refine q_alen rfl rfl (by decide) rfl rfl (q_tn (z := 5) rfl ?_)
            refine q_icge rfl rfl (fun c526 => absurd c526 (by decide)) (fun c526 => ?_)
            refine q_iload_n rfl rfl rfl ?_
            refine q_iload rfl rfl rfl ?_
            refine q_iushr rfl rfl (q_tn (z := 3) rfl ?_)
            refine q_iconst rfl rfl ?_
            refine q_iand rfl rfl (q_tn (z := 1) rfl ?_)
            refine q_ifeq rfl rfl (fun c527 => absurd c527 (by decide)) (fun c527 => ?_)
            refine q_aload_n rfl rfl rfl ?_
            refine q_iload rfl rfl rfl ?_
            refine q_lald rfl rfl (by decide) rfl (by decide) (q_tnl (z := 1074791425) rfl ?_)
            refine q_iload_n rfl rfl rfl ?_
            refine q_nS2 rfl rfl (Or.inr rfl) rfl rfl ⟨rfl, rfl⟩ rfl ?_
            change PQ _ _ _ mm_X11_says 0 [.long 1074791425, pm_un, .int 6] [] _ _ 0 0 _
            refine q_lload_n rfl rfl rfl ?_
            refine q_iload_n rfl rfl rfl ?_
            refine q_lushr rfl rfl (q_tnl (z := 16793616) rfl ?_)
            refine q_lconst rfl rfl ?_
            refine q_land rfl rfl (q_tnl (z := 0) rfl ?_)
            refine q_lconst rfl rfl ?_
            refine q_lcmp rfl rfl (q_tn (z := 0) rfl ?_)
            refine q_ifeq rfl rfl (fun c528 => ?_) (fun c528 => absurd (by decide) c528)
            refine q_iconst rfl rfl ?_
            refine q_iret rfl rfl rfl ?_
            refine ⟨_, rfl, ?_⟩
            refine q_ifeq rfl rfl (fun c529 => ?_) (fun c529 => absurd (by decide) c529)
            refine q_icc4 (z := 4) rfl rfl rfl rfl rfl ?_
            refine q_goto rfl ?_
            refine q_iload rfl rfl rfl ?_
            refine q_aload_n rfl rfl rfl ?_
            refine q_alen rfl rfl (by decide) rfl rfl (q_tn (z := 5) rfl ?_)
            refine q_icge rfl rfl (fun c530 => absurd c530 (by decide)) (fun c530 => ?_)
            refine q_iload_n rfl rfl rfl ?_
            refine q_iload rfl rfl rfl ?_
            refine q_iushr rfl rfl (q_tn (z := 1) rfl ?_)
            refine q_iconst rfl rfl ?_
            refine q_iand rfl rfl (q_tn (z := 1) rfl ?_)
            refine q_ifeq rfl rfl (fun c531 => absurd c531 (by decide)) (fun c531 => ?_)
            refine q_aload_n rfl rfl rfl ?_
            refine q_iload rfl rfl rfl ?_
            refine q_lald rfl rfl (by decide) rfl (by decide) (q_tnl (z := 1074791425) rfl ?_)
            refine q_iload_n rfl rfl rfl ?_
            refine q_nS2 rfl rfl (Or.inr rfl) rfl rfl ⟨rfl, rfl⟩ rfl ?_
            change PQ _ _ _ mm_X11_says 0 [.long 1074791425, pm_un, .int 6] [] _ _ 0 0 _
            refine q_lload_n rfl rfl rfl ?_
            refine q_iload_n rfl rfl rfl ?_
            refine q_lushr rfl rfl (q_tnl (z := 16793616) rfl ?_)
            refine q_lconst rfl rfl ?_
            refine q_land rfl rfl (q_tnl (z := 0) rfl ?_)
            refine q_lconst rfl rfl ?_
            refine q_lcmp rfl rfl (q_tn (z := 0) rfl ?_)
            refine q_ifeq rfl rfl (fun c532 => ?_) (fun c532 => absurd (by decide) c532)
            refine q_iconst rfl rfl ?_
            refine q_iret rfl rfl rfl ?_
            refine ⟨_, rfl, ?_⟩
            refine q_ifeq rfl rfl (fun c533 => ?_) (fun c533 => absurd (by decide) c533)
            refine q_icc4 (z := 5) rfl rfl rfl rfl rfl ?_
            refine q_goto rfl ?_
            refine q_iload rfl rfl rfl ?_
            refine q_aload_n rfl rfl rfl ?_
            refine q_alen rfl rfl (by decide) rfl rfl (q_tn (z := 5) rfl ?_)
            refine q_icge rfl rfl (fun c534 => ?_) (fun c534 => absurd (by decide) c534)
            refine q_iload_n rfl rfl rfl ?_
            refine q_iload_n rfl rfl rfl ?_
            refine q_nS1 rfl rfl (Or.inl rfl) rfl rfl ⟨rfl, rfl⟩ rfl ?_
            change PQ _ _ _ mm_J6_bitCount_0f7a4 0 [.int 31] [] _ _ 0 0 _
            refine q_iload_n rfl rfl rfl ?_
            refine q_iload_n rfl rfl rfl ?_
            refine q_iconst rfl rfl ?_
            refine q_iushr rfl rfl (q_tn (z := 15) rfl ?_)
            refine q_ldcw rfl rfl ?_
            refine q_iand rfl rfl (q_tn (z := 5) rfl ?_)
            refine q_isub rfl rfl (q_tn (z := 26) rfl ?_)
            refine q_ist0n rfl rfl rfl ?_
            refine q_iload_n rfl rfl rfl ?_
            refine q_ldcw rfl rfl ?_
            refine q_iand rfl rfl (q_tn (z := 18) rfl ?_)
            refine q_iload_n rfl rfl rfl ?_
            refine q_iconst rfl rfl ?_
            refine q_iushr rfl rfl (q_tn (z := 6) rfl ?_)
            refine q_ldcw rfl rfl ?_
            refine q_iand rfl rfl (q_tn (z := 2) rfl ?_)
            refine q_iadd rfl rfl (q_tn (z := 20) rfl ?_)
            refine q_ist0n rfl rfl rfl ?_
            refine q_iload_n rfl rfl rfl ?_
            refine q_iload_n rfl rfl rfl ?_
            refine q_iconst rfl rfl ?_
            refine q_iushr rfl rfl (q_tn (z := 1) rfl ?_)
            refine q_iadd rfl rfl (q_tn (z := 21) rfl ?_)
            refine q_ldcw rfl rfl ?_
            refine q_iand rfl rfl (q_tn (z := 5) rfl ?_)
            refine q_ist0n rfl rfl rfl ?_
            refine q_iload_n rfl rfl rfl ?_
            refine q_iload_n rfl rfl rfl ?_
            refine q_bipush rfl rfl ?_
            refine q_iushr rfl rfl (q_tn (z := 0) rfl ?_)
            refine q_iadd rfl rfl (q_tn (z := 5) rfl ?_)
            refine q_ist0n rfl rfl rfl ?_
            refine q_iload_n rfl rfl rfl ?_
            refine q_iload_n rfl rfl rfl ?_
            refine q_bipush rfl rfl ?_
            refine q_iushr rfl rfl (q_tn (z := 0) rfl ?_)
            refine q_iadd rfl rfl (q_tn (z := 5) rfl ?_)
            refine q_ist0n rfl rfl rfl ?_
            refine q_iload_n rfl rfl rfl ?_
            refine q_bipush rfl rfl ?_
            refine q_iand rfl rfl (q_tn (z := 5) rfl ?_)
            refine q_iret rfl rfl trivial ?_
            refine ⟨_, rfl, ?_⟩
            refine q_iload_n rfl rfl rfl ?_
            refine q_isub rfl rfl (q_tn (z := 5) rfl ?_)
            refine q_mmax (z := 5) rfl om_gp rfl rfl rfl ?_
            refine q_iret rfl rfl trivial ?_
            refine ⟨_, rfl, ?_⟩
            refine q_ist6 rfl rfl rfl rfl ?_
            refine q_aload_n rfl rfl rfl ?_
            refine q_getf rfl rfl (by decide) (FW_42 S hW) rfl ?_
            refine q_iload rfl rfl rfl ?_
            refine q_nS2 rfl rfl (Or.inr rfl) rfl rfl ⟨rfl, rfl⟩ rfl ?_
            change PQ _ _ _ mm_X11_says 0 [.long 0, pm_un, .int 6] [] _ _ 0 0 _
            refine q_lload_n rfl rfl rfl ?_
            refine q_iload_n rfl rfl rfl ?_
            refine q_lushr rfl rfl (q_tnl (z := 0) rfl ?_)
            refine q_lconst rfl rfl ?_
            refine q_land rfl rfl (q_tnl (z := 0) rfl ?_)
            refine q_lconst rfl rfl ?_
            refine q_lcmp rfl rfl (q_tn (z := 0) rfl ?_)
            refine q_ifeq rfl rfl (fun c535 => ?_) (fun c535 => absurd (by decide) c535)
            refine q_iconst rfl rfl ?_
            refine q_iret rfl rfl rfl ?_
            refine ⟨_, rfl, ?_⟩
            refine q_ifne rfl rfl (fun c536 => ?_) (fun c536 => absurd (by decide) c536)
            refine q_iload rfl rfl rfl ?_
            refine q_iload rfl rfl rfl ?_
            refine q_icge rfl rfl (fun c537 => ?_) (fun c537 => absurd (by decide) c537)
            refine q_icc5 (z := 7) rfl rfl rfl rfl rfl ?_
            refine q_goto rfl ?_
            refine q_iload rfl rfl rfl ?_
            refine q_bipush rfl rfl ?_
            refine q_icge rfl rfl (fun c538 => absurd c538 (by decide)) (fun c538 => ?_)
            refine q_aload_n rfl rfl rfl ?_
            refine q_iload_n rfl rfl rfl ?_
            refine q_iload rfl rfl rfl ?_
            refine q_nS3 rfl rfl (Or.inl rfl) rfl rfl ⟨rfl, rfl⟩ rfl ?_
            change PQ _ _ _ mm_X3_greaterPart 0 [.ref 45, .int 31, .int 7, pm_un, pm_un] [] _ _ 0 0 _
            refine q_iconst rfl rfl ?_
            refine q_ist3n rfl rfl rfl rfl ?_
            refine q_iconst rfl rfl ?_
            refine q_ist4 rfl rfl rfl rfl ?_
            refine q_iload rfl rfl rfl ?_
            refine q_aload_n rfl rfl rfl ?_
            refine q_alen rfl rfl (by decide) rfl rfl (q_tn (z := 5) rfl ?_)
            refine q_icge rfl rfl (fun c539 => absurd c539 (by decide)) (fun c539 => ?_)
            refine q_iload_n rfl rfl rfl ?_
            refine q_iload rfl rfl rfl ?_
            refine q_iushr rfl rfl (q_tn (z := 31) rfl ?_)
            refine q_iconst rfl rfl ?_
            refine q_iand rfl rfl (q_tn (z := 1) rfl ?_)
            refine q_ifeq rfl rfl (fun c540 => absurd c540 (by decide)) (fun c540 => ?_)
            refine q_aload_n rfl rfl rfl ?_
            refine q_iload rfl rfl rfl ?_
            refine q_lald rfl rfl (by decide) rfl (by decide) (q_tnl (z := 1074791425) rfl ?_)
            refine q_iload_n rfl rfl rfl ?_
            refine q_nS2 rfl rfl (Or.inr rfl) rfl rfl ⟨rfl, rfl⟩ rfl ?_
            change PQ _ _ _ mm_X11_says 0 [.long 1074791425, pm_un, .int 7] [] _ _ 0 0 _
            refine q_lload_n rfl rfl rfl ?_
            refine q_iload_n rfl rfl rfl ?_
            refine q_lushr rfl rfl (q_tnl (z := 8396808) rfl ?_)
            refine q_lconst rfl rfl ?_
            refine q_land rfl rfl (q_tnl (z := 0) rfl ?_)
            refine q_lconst rfl rfl ?_
            refine q_lcmp rfl rfl (q_tn (z := 0) rfl ?_)
            refine q_ifeq rfl rfl (fun c541 => ?_) (fun c541 => absurd (by decide) c541)
            refine q_iconst rfl rfl ?_
            refine q_iret rfl rfl rfl ?_
            refine ⟨_, rfl, ?_⟩
            refine q_ifeq rfl rfl (fun c542 => ?_) (fun c542 => absurd (by decide) c542)
            refine q_icc4 (z := 1) rfl rfl rfl rfl rfl ?_
            refine q_goto rfl ?_
            refine q_iload rfl rfl rfl ?_
            refine q_aload_n rfl rfl rfl ?_
            refine q_alen rfl rfl (by decide) rfl rfl (q_tn (z := 5) rfl ?_)
            refine q_icge rfl rfl (fun c543 => absurd c543 (by decide)) (fun c543 => ?_)
            refine q_iload_n rfl rfl rfl ?_
            refine q_iload rfl rfl rfl ?_
            refine q_iushr rfl rfl (q_tn (z := 15) rfl ?_)
            refine q_iconst rfl rfl ?_
            refine q_iand rfl rfl (q_tn (z := 1) rfl ?_)
            refine q_ifeq rfl rfl (fun c544 => absurd c544 (by decide)) (fun c544 => ?_)
            refine q_aload_n rfl rfl rfl ?_
            refine q_iload rfl rfl rfl ?_
            refine q_lald rfl rfl (by decide) rfl (by decide) (q_tnl (z := 1074791425) rfl ?_)
            refine q_iload_n rfl rfl rfl ?_
            refine q_nS2 rfl rfl (Or.inr rfl) rfl rfl ⟨rfl, rfl⟩ rfl ?_
            change PQ _ _ _ mm_X11_says 0 [.long 1074791425, pm_un, .int 7] [] _ _ 0 0 _
            refine q_lload_n rfl rfl rfl ?_
            refine q_iload_n rfl rfl rfl ?_
            refine q_lushr rfl rfl (q_tnl (z := 8396808) rfl ?_)
            refine q_lconst rfl rfl ?_
            refine q_land rfl rfl (q_tnl (z := 0) rfl ?_)
            refine q_lconst rfl rfl ?_
            refine q_lcmp rfl rfl (q_tn (z := 0) rfl ?_)
            refine q_ifeq rfl rfl (fun c545 => ?_) (fun c545 => absurd (by decide) c545)
            refine q_iconst rfl rfl ?_
            refine q_iret rfl rfl rfl ?_
            refine ⟨_, rfl, ?_⟩
            refine q_ifeq rfl rfl (fun c546 => ?_) (fun c546 => absurd (by decide) c546)
            refine q_icc4 (z := 2) rfl rfl rfl rfl rfl ?_
            refine q_goto rfl ?_
            refine q_iload rfl rfl rfl ?_
            refine q_aload_n rfl rfl rfl ?_
            refine q_alen rfl rfl (by decide) rfl rfl (q_tn (z := 5) rfl ?_)
            refine q_icge rfl rfl (fun c547 => absurd c547 (by decide)) (fun c547 => ?_)
            refine q_iload_n rfl rfl rfl ?_
            refine q_iload rfl rfl rfl ?_
            refine q_iushr rfl rfl (q_tn (z := 7) rfl ?_)
            refine q_iconst rfl rfl ?_
            refine q_iand rfl rfl (q_tn (z := 1) rfl ?_)
            refine q_ifeq rfl rfl (fun c548 => absurd c548 (by decide)) (fun c548 => ?_)
            refine q_aload_n rfl rfl rfl ?_
            refine q_iload rfl rfl rfl ?_
            refine q_lald rfl rfl (by decide) rfl (by decide) (q_tnl (z := 1074791425) rfl ?_)
            refine q_iload_n rfl rfl rfl ?_
            refine q_nS2 rfl rfl (Or.inr rfl) rfl rfl ⟨rfl, rfl⟩ rfl ?_
            change PQ _ _ _ mm_X11_says 0 [.long 1074791425, pm_un, .int 7] [] _ _ 0 0 _
            refine q_lload_n rfl rfl rfl ?_
            refine q_iload_n rfl rfl rfl ?_
            refine q_lushr rfl rfl (q_tnl (z := 8396808) rfl ?_)
            refine q_lconst rfl rfl ?_
            refine q_land rfl rfl (q_tnl (z := 0) rfl ?_)
            refine q_lconst rfl rfl ?_
            refine q_lcmp rfl rfl (q_tn (z := 0) rfl ?_)
            refine q_ifeq rfl rfl (fun c549 => ?_) (fun c549 => absurd (by decide) c549)
            refine q_iconst rfl rfl ?_
            refine q_iret rfl rfl rfl ?_
            refine ⟨_, rfl, ?_⟩
            refine q_ifeq rfl rfl (fun c550 => ?_) (fun c550 => absurd (by decide) c550)
            refine q_icc4 (z := 3) rfl rfl rfl rfl rfl ?_
            refine q_goto rfl ?_
            refine q_iload rfl rfl rfl ?_
            refine q_aload_n rfl rfl rfl ?_
            refine q_alen rfl rfl (by decide) rfl rfl (q_tn (z := 5) rfl ?_)
            refine q_icge rfl rfl (fun c551 => absurd c551 (by decide)) (fun c551 => ?_)
            refine q_iload_n rfl rfl rfl ?_
            refine q_iload rfl rfl rfl ?_
            refine q_iushr rfl rfl (q_tn (z := 3) rfl ?_)
            refine q_iconst rfl rfl ?_
            refine q_iand rfl rfl (q_tn (z := 1) rfl ?_)
            refine q_ifeq rfl rfl (fun c552 => absurd c552 (by decide)) (fun c552 => ?_)
            refine q_aload_n rfl rfl rfl ?_
            refine q_iload rfl rfl rfl ?_
            refine q_lald rfl rfl (by decide) rfl (by decide) (q_tnl (z := 1074791425) rfl ?_)
            refine q_iload_n rfl rfl rfl ?_
            refine q_nS2 rfl rfl (Or.inr rfl) rfl rfl ⟨rfl, rfl⟩ rfl ?_
            change PQ _ _ _ mm_X11_says 0 [.long 1074791425, pm_un, .int 7] [] _ _ 0 0 _
            refine q_lload_n rfl rfl rfl ?_
            refine q_iload_n rfl rfl rfl ?_
            refine q_lushr rfl rfl (q_tnl (z := 8396808) rfl ?_)
            refine q_lconst rfl rfl ?_
            refine q_land rfl rfl (q_tnl (z := 0) rfl ?_)
            refine q_lconst rfl rfl ?_
            refine q_lcmp rfl rfl (q_tn (z := 0) rfl ?_)
            refine q_ifeq rfl rfl (fun c553 => ?_) (fun c553 => absurd (by decide) c553)
            refine q_iconst rfl rfl ?_
            refine q_iret rfl rfl rfl ?_
            refine ⟨_, rfl, ?_⟩
            refine q_ifeq rfl rfl (fun c554 => ?_) (fun c554 => absurd (by decide) c554)
            refine q_icc4 (z := 4) rfl rfl rfl rfl rfl ?_
            refine q_goto rfl ?_
            refine q_iload rfl rfl rfl ?_
            refine q_aload_n rfl rfl rfl ?_
            refine q_alen rfl rfl (by decide) rfl rfl (q_tn (z := 5) rfl ?_)
            refine q_icge rfl rfl (fun c555 => absurd c555 (by decide)) (fun c555 => ?_)
            refine q_iload_n rfl rfl rfl ?_
            refine q_iload rfl rfl rfl ?_
            refine q_iushr rfl rfl (q_tn (z := 1) rfl ?_)
            refine q_iconst rfl rfl ?_
            refine q_iand rfl rfl (q_tn (z := 1) rfl ?_)
            refine q_ifeq rfl rfl (fun c556 => absurd c556 (by decide)) (fun c556 => ?_)
            refine q_aload_n rfl rfl rfl ?_
            refine q_iload rfl rfl rfl ?_
            refine q_lald rfl rfl (by decide) rfl (by decide) (q_tnl (z := 1074791425) rfl ?_)
            refine q_iload_n rfl rfl rfl ?_
            refine q_nS2 rfl rfl (Or.inr rfl) rfl rfl ⟨rfl, rfl⟩ rfl ?_
            change PQ _ _ _ mm_X11_says 0 [.long 1074791425, pm_un, .int 7] [] _ _ 0 0 _
            refine q_lload_n rfl rfl rfl ?_
            refine q_iload_n rfl rfl rfl ?_
            refine q_lushr rfl rfl (q_tnl (z := 8396808) rfl ?_)
            refine q_lconst rfl rfl ?_
            refine q_land rfl rfl (q_tnl (z := 0) rfl ?_)
            refine q_lconst rfl rfl ?_
            refine q_lcmp rfl rfl (q_tn (z := 0) rfl ?_)
            refine q_ifeq rfl rfl (fun c557 => ?_) (fun c557 => absurd (by decide) c557)
            refine q_iconst rfl rfl ?_
            refine q_iret rfl rfl rfl ?_
            refine ⟨_, rfl, ?_⟩
            refine q_ifeq rfl rfl (fun c558 => ?_) (fun c558 => absurd (by decide) c558)
            refine q_icc4 (z := 5) rfl rfl rfl rfl rfl ?_
            refine q_goto rfl ?_
            refine q_iload rfl rfl rfl ?_
            refine q_aload_n rfl rfl rfl ?_
            refine q_alen rfl rfl (by decide) rfl rfl (q_tn (z := 5) rfl ?_)
            refine q_icge rfl rfl (fun c559 => ?_) (fun c559 => absurd (by decide) c559)
            refine q_iload_n rfl rfl rfl ?_
            refine q_iload_n rfl rfl rfl ?_
            refine q_nS1 rfl rfl (Or.inl rfl) rfl rfl ⟨rfl, rfl⟩ rfl ?_
            change PQ _ _ _ mm_J6_bitCount_0f7a4 0 [.int 31] [] _ _ 0 0 _
            refine q_iload_n rfl rfl rfl ?_
            refine q_iload_n rfl rfl rfl ?_
            refine q_iconst rfl rfl ?_
            refine q_iushr rfl rfl (q_tn (z := 15) rfl ?_)
            refine q_ldcw rfl rfl ?_
            refine q_iand rfl rfl (q_tn (z := 5) rfl ?_)
            refine q_isub rfl rfl (q_tn (z := 26) rfl ?_)
            refine q_ist0n rfl rfl rfl ?_
            refine q_iload_n rfl rfl rfl ?_
            refine q_ldcw rfl rfl ?_
            refine q_iand rfl rfl (q_tn (z := 18) rfl ?_)
            refine q_iload_n rfl rfl rfl ?_
            refine q_iconst rfl rfl ?_
            refine q_iushr rfl rfl (q_tn (z := 6) rfl ?_)
            refine q_ldcw rfl rfl ?_
            refine q_iand rfl rfl (q_tn (z := 2) rfl ?_)
            refine q_iadd rfl rfl (q_tn (z := 20) rfl ?_)
            refine q_ist0n rfl rfl rfl ?_
            refine q_iload_n rfl rfl rfl ?_
            refine q_iload_n rfl rfl rfl ?_
            refine q_iconst rfl rfl ?_
            refine q_iushr rfl rfl (q_tn (z := 1) rfl ?_)
            refine q_iadd rfl rfl (q_tn (z := 21) rfl ?_)
            refine q_ldcw rfl rfl ?_
            refine q_iand rfl rfl (q_tn (z := 5) rfl ?_)
            refine q_ist0n rfl rfl rfl ?_
            refine q_iload_n rfl rfl rfl ?_
            refine q_iload_n rfl rfl rfl ?_
            refine q_bipush rfl rfl ?_
            refine q_iushr rfl rfl (q_tn (z := 0) rfl ?_)
            refine q_iadd rfl rfl (q_tn (z := 5) rfl ?_)
            refine q_ist0n rfl rfl rfl ?_
            refine q_iload_n rfl rfl rfl ?_
            refine q_iload_n rfl rfl rfl ?_
            refine q_bipush rfl rfl ?_
            refine q_iushr rfl rfl (q_tn (z := 0) rfl ?_)
            refine q_iadd rfl rfl (q_tn (z := 5) rfl ?_)
            refine q_ist0n rfl rfl rfl ?_
            refine q_iload_n rfl rfl rfl ?_
            refine q_bipush rfl rfl ?_
            refine q_iand rfl rfl (q_tn (z := 5) rfl ?_)
            refine q_iret rfl rfl trivial ?_
            refine ⟨_, rfl, ?_⟩
            refine q_iload_n rfl rfl rfl ?_
            refine q_isub rfl rfl (q_tn (z := 5) rfl ?_)
            refine q_mmax (z := 5) rfl om_gp rfl rfl rfl ?_
            refine q_iret rfl rfl trivial ?_
            refine ⟨_, rfl, ?_⟩
            refine q_ist6 rfl rfl rfl rfl ?_
            refine q_aload_n rfl rfl rfl ?_
            refine q_getf rfl rfl (by decide) (FW_42 S hW) rfl ?_
            refine q_iload rfl rfl rfl ?_
            refine q_nS2 rfl rfl (Or.inr rfl) rfl rfl ⟨rfl, rfl⟩ rfl ?_
            change PQ _ _ _ mm_X11_says 0 [.long 0, pm_un, .int 7] [] _ _ 0 0 _
            refine q_lload_n rfl rfl rfl ?_
            refine q_iload_n rfl rfl rfl ?_
            refine q_lushr rfl rfl (q_tnl (z := 0) rfl ?_)
            refine q_lconst rfl rfl ?_
            refine q_land rfl rfl (q_tnl (z := 0) rfl ?_)
            refine q_lconst rfl rfl ?_
            refine q_lcmp rfl rfl (q_tn (z := 0) rfl ?_)
            refine q_ifeq rfl rfl (fun c560 => ?_) (fun c560 => absurd (by decide) c560)
            refine q_iconst rfl rfl ?_
            refine q_iret rfl rfl rfl ?_
            refine ⟨_, rfl, ?_⟩
            refine q_ifne rfl rfl (fun c561 => ?_) (fun c561 => absurd (by decide) c561)
            refine q_iload rfl rfl rfl ?_
            refine q_iload rfl rfl rfl ?_
            refine q_icge rfl rfl (fun c562 => ?_) (fun c562 => absurd (by decide) c562)
            refine q_icc5 (z := 8) rfl rfl rfl rfl rfl ?_
            refine q_goto rfl ?_
            refine q_iload rfl rfl rfl ?_
            refine q_bipush rfl rfl ?_
            refine q_icge rfl rfl (fun c563 => absurd c563 (by decide)) (fun c563 => ?_)
            refine q_aload_n rfl rfl rfl ?_
            refine q_iload_n rfl rfl rfl ?_
            refine q_iload rfl rfl rfl ?_
            refine q_nS3 rfl rfl (Or.inl rfl) rfl rfl ⟨rfl, rfl⟩ rfl ?_
            change PQ _ _ _ mm_X3_greaterPart 0 [.ref 45, .int 31, .int 8, pm_un, pm_un] [] _ _ 0 0 _
            refine q_iconst rfl rfl ?_
            refine q_ist3n rfl rfl rfl rfl ?_
            refine q_iconst rfl rfl ?_
            refine q_ist4 rfl rfl rfl rfl ?_
            refine q_iload rfl rfl rfl ?_
            refine q_aload_n rfl rfl rfl ?_
            refine q_alen rfl rfl (by decide) rfl rfl (q_tn (z := 5) rfl ?_)
            refine q_icge rfl rfl (fun c564 => absurd c564 (by decide)) (fun c564 => ?_)
            refine q_iload_n rfl rfl rfl ?_
            refine q_iload rfl rfl rfl ?_
            refine q_iushr rfl rfl (q_tn (z := 31) rfl ?_)
            refine q_iconst rfl rfl ?_
            refine q_iand rfl rfl (q_tn (z := 1) rfl ?_)
            refine q_ifeq rfl rfl (fun c565 => absurd c565 (by decide)) (fun c565 => ?_)
            refine q_aload_n rfl rfl rfl ?_
            refine q_iload rfl rfl rfl ?_
            refine q_lald rfl rfl (by decide) rfl (by decide) (q_tnl (z := 1074791425) rfl ?_)
            refine q_iload_n rfl rfl rfl ?_
            refine q_nS2 rfl rfl (Or.inr rfl) rfl rfl ⟨rfl, rfl⟩ rfl ?_
            change PQ _ _ _ mm_X11_says 0 [.long 1074791425, pm_un, .int 8] [] _ _ 0 0 _
            refine q_lload_n rfl rfl rfl ?_
            refine q_iload_n rfl rfl rfl ?_
            refine q_lushr rfl rfl (q_tnl (z := 4198404) rfl ?_)
            refine q_lconst rfl rfl ?_
            refine q_land rfl rfl (q_tnl (z := 0) rfl ?_)
            refine q_lconst rfl rfl ?_
            refine q_lcmp rfl rfl (q_tn (z := 0) rfl ?_)
            refine q_ifeq rfl rfl (fun c566 => ?_) (fun c566 => absurd (by decide) c566)
            refine q_iconst rfl rfl ?_
            refine q_iret rfl rfl rfl ?_
            refine ⟨_, rfl, ?_⟩
            refine q_ifeq rfl rfl (fun c567 => ?_) (fun c567 => absurd (by decide) c567)
            refine q_icc4 (z := 1) rfl rfl rfl rfl rfl ?_
            refine q_goto rfl ?_
            refine q_iload rfl rfl rfl ?_
            refine q_aload_n rfl rfl rfl ?_
            refine q_alen rfl rfl (by decide) rfl rfl (q_tn (z := 5) rfl ?_)
            refine q_icge rfl rfl (fun c568 => absurd c568 (by decide)) (fun c568 => ?_)
            refine q_iload_n rfl rfl rfl ?_
            refine q_iload rfl rfl rfl ?_
            refine q_iushr rfl rfl (q_tn (z := 15) rfl ?_)
            refine q_iconst rfl rfl ?_
            refine q_iand rfl rfl (q_tn (z := 1) rfl ?_)
            refine q_ifeq rfl rfl (fun c569 => absurd c569 (by decide)) (fun c569 => ?_)
            refine q_aload_n rfl rfl rfl ?_
            refine q_iload rfl rfl rfl ?_
            refine q_lald rfl rfl (by decide) rfl (by decide) (q_tnl (z := 1074791425) rfl ?_)
            refine q_iload_n rfl rfl rfl ?_
            refine q_nS2 rfl rfl (Or.inr rfl) rfl rfl ⟨rfl, rfl⟩ rfl ?_
            change PQ _ _ _ mm_X11_says 0 [.long 1074791425, pm_un, .int 8] [] _ _ 0 0 _
            refine q_lload_n rfl rfl rfl ?_
            refine q_iload_n rfl rfl rfl ?_
            refine q_lushr rfl rfl (q_tnl (z := 4198404) rfl ?_)
            refine q_lconst rfl rfl ?_
            refine q_land rfl rfl (q_tnl (z := 0) rfl ?_)
            refine q_lconst rfl rfl ?_
            refine q_lcmp rfl rfl (q_tn (z := 0) rfl ?_)
            refine q_ifeq rfl rfl (fun c570 => ?_) (fun c570 => absurd (by decide) c570)
            refine q_iconst rfl rfl ?_
            refine q_iret rfl rfl rfl ?_
            refine ⟨_, rfl, ?_⟩
            refine q_ifeq rfl rfl (fun c571 => ?_) (fun c571 => absurd (by decide) c571)
            refine q_icc4 (z := 2) rfl rfl rfl rfl rfl ?_
            refine q_goto rfl ?_
            refine q_iload rfl rfl rfl ?_
            refine q_aload_n rfl rfl rfl ?_
            refine q_alen rfl rfl (by decide) rfl rfl (q_tn (z := 5) rfl ?_)
            refine q_icge rfl rfl (fun c572 => absurd c572 (by decide)) (fun c572 => ?_)
            refine q_iload_n rfl rfl rfl ?_
            refine q_iload rfl rfl rfl ?_
            refine q_iushr rfl rfl (q_tn (z := 7) rfl ?_)
            refine q_iconst rfl rfl ?_
            refine q_iand rfl rfl (q_tn (z := 1) rfl ?_)
            refine q_ifeq rfl rfl (fun c573 => absurd c573 (by decide)) (fun c573 => ?_)
            refine q_aload_n rfl rfl rfl ?_
            refine q_iload rfl rfl rfl ?_
            refine q_lald rfl rfl (by decide) rfl (by decide) (q_tnl (z := 1074791425) rfl ?_)
            refine q_iload_n rfl rfl rfl ?_
            refine q_nS2 rfl rfl (Or.inr rfl) rfl rfl ⟨rfl, rfl⟩ rfl ?_
            change PQ _ _ _ mm_X11_says 0 [.long 1074791425, pm_un, .int 8] [] _ _ 0 0 _
            refine q_lload_n rfl rfl rfl ?_
            refine q_iload_n rfl rfl rfl ?_
            refine q_lushr rfl rfl (q_tnl (z := 4198404) rfl ?_)
            refine q_lconst rfl rfl ?_
            refine q_land rfl rfl (q_tnl (z := 0) rfl ?_)
            refine q_lconst rfl rfl ?_
            refine q_lcmp rfl rfl (q_tn (z := 0) rfl ?_)
            refine q_ifeq rfl rfl (fun c574 => ?_) (fun c574 => absurd (by decide) c574)
            refine q_iconst rfl rfl ?_
            refine q_iret rfl rfl rfl ?_
            refine ⟨_, rfl, ?_⟩
            refine q_ifeq rfl rfl (fun c575 => ?_) (fun c575 => absurd (by decide) c575)
            refine q_icc4 (z := 3) rfl rfl rfl rfl rfl ?_
            refine q_goto rfl ?_
            refine q_iload rfl rfl rfl ?_
            refine q_aload_n rfl rfl rfl ?_
            refine q_alen rfl rfl (by decide) rfl rfl (q_tn (z := 5) rfl ?_)
            refine q_icge rfl rfl (fun c576 => absurd c576 (by decide)) (fun c576 => ?_)
            refine q_iload_n rfl rfl rfl ?_
            refine q_iload rfl rfl rfl ?_
            refine q_iushr rfl rfl (q_tn (z := 3) rfl ?_)
            refine q_iconst rfl rfl ?_
            refine q_iand rfl rfl (q_tn (z := 1) rfl ?_)
            refine q_ifeq rfl rfl (fun c577 => absurd c577 (by decide)) (fun c577 => ?_)
            refine q_aload_n rfl rfl rfl ?_
            refine q_iload rfl rfl rfl ?_
            refine q_lald rfl rfl (by decide) rfl (by decide) (q_tnl (z := 1074791425) rfl ?_)
            refine q_iload_n rfl rfl rfl ?_
            refine q_nS2 rfl rfl (Or.inr rfl) rfl rfl ⟨rfl, rfl⟩ rfl ?_
            change PQ _ _ _ mm_X11_says 0 [.long 1074791425, pm_un, .int 8] [] _ _ 0 0 _
            refine q_lload_n rfl rfl rfl ?_
            refine q_iload_n rfl rfl rfl ?_
            refine q_lushr rfl rfl (q_tnl (z := 4198404) rfl ?_)
            refine q_lconst rfl rfl ?_
            refine q_land rfl rfl (q_tnl (z := 0) rfl ?_)
            refine q_lconst rfl rfl ?_
            refine q_lcmp rfl rfl (q_tn (z := 0) rfl ?_)
            refine q_ifeq rfl rfl (fun c578 => ?_) (fun c578 => absurd (by decide) c578)
            refine q_iconst rfl rfl ?_
            refine q_iret rfl rfl rfl ?_
            refine ⟨_, rfl, ?_⟩
            refine q_ifeq rfl rfl (fun c579 => ?_) (fun c579 => absurd (by decide) c579)
            refine q_icc4 (z := 4) rfl rfl rfl rfl rfl ?_
            refine q_goto rfl ?_
            refine q_iload rfl rfl rfl ?_
            refine q_aload_n rfl rfl rfl ?_
            refine q_alen rfl rfl (by decide) rfl rfl (q_tn (z := 5) rfl ?_)
            refine q_icge rfl rfl (fun c580 => absurd c580 (by decide)) (fun c580 => ?_)
            refine q_iload_n rfl rfl rfl ?_
            refine q_iload rfl rfl rfl ?_
            refine q_iushr rfl rfl (q_tn (z := 1) rfl ?_)
            refine q_iconst rfl rfl ?_
            refine q_iand rfl rfl (q_tn (z := 1) rfl ?_)
            refine q_ifeq rfl rfl (fun c581 => absurd c581 (by decide)) (fun c581 => ?_)
            refine q_aload_n rfl rfl rfl ?_
            refine q_iload rfl rfl rfl ?_
            refine q_lald rfl rfl (by decide) rfl (by decide) (q_tnl (z := 1074791425) rfl ?_)
            refine q_iload_n rfl rfl rfl ?_
            refine q_nS2 rfl rfl (Or.inr rfl) rfl rfl ⟨rfl, rfl⟩ rfl ?_
            change PQ _ _ _ mm_X11_says 0 [.long 1074791425, pm_un, .int 8] [] _ _ 0 0 _
            refine q_lload_n rfl rfl rfl ?_
            refine q_iload_n rfl rfl rfl ?_
            refine q_lushr rfl rfl (q_tnl (z := 4198404) rfl ?_)
            refine q_lconst rfl rfl ?_
            refine q_land rfl rfl (q_tnl (z := 0) rfl ?_)
            refine q_lconst rfl rfl ?_
            refine q_lcmp rfl rfl (q_tn (z := 0) rfl ?_)
            refine q_ifeq rfl rfl (fun c582 => ?_) (fun c582 => absurd (by decide) c582)
            refine q_iconst rfl rfl ?_
            refine q_iret rfl rfl rfl ?_
            refine ⟨_, rfl, ?_⟩
            refine q_ifeq rfl rfl (fun c583 => ?_) (fun c583 => absurd (by decide) c583)
            refine q_icc4 (z := 5) rfl rfl rfl rfl rfl ?_
            refine q_goto rfl ?_
            refine q_iload rfl rfl rfl ?_
            refine q_aload_n rfl rfl rfl ?_
            refine q_alen rfl rfl (by decide) rfl rfl (q_tn (z := 5) rfl ?_)
            refine q_icge rfl rfl (fun c584 => ?_) (fun c584 => absurd (by decide) c584)
            refine q_iload_n rfl rfl rfl ?_
            refine q_iload_n rfl rfl rfl ?_
            refine q_nS1 rfl rfl (Or.inl rfl) rfl rfl ⟨rfl, rfl⟩ rfl ?_
            change PQ _ _ _ mm_J6_bitCount_0f7a4 0 [.int 31] [] _ _ 0 0 _
            refine q_iload_n rfl rfl rfl ?_
            refine q_iload_n rfl rfl rfl ?_
            refine q_iconst rfl rfl ?_
            refine q_iushr rfl rfl (q_tn (z := 15) rfl ?_)
            refine q_ldcw rfl rfl ?_
            refine q_iand rfl rfl (q_tn (z := 5) rfl ?_)
            refine q_isub rfl rfl (q_tn (z := 26) rfl ?_)
            refine q_ist0n rfl rfl rfl ?_
            refine q_iload_n rfl rfl rfl ?_
            refine q_ldcw rfl rfl ?_
            refine q_iand rfl rfl (q_tn (z := 18) rfl ?_)
            refine q_iload_n rfl rfl rfl ?_
            refine q_iconst rfl rfl ?_
            refine q_iushr rfl rfl (q_tn (z := 6) rfl ?_)
            refine q_ldcw rfl rfl ?_
            refine q_iand rfl rfl (q_tn (z := 2) rfl ?_)
            refine q_iadd rfl rfl (q_tn (z := 20) rfl ?_)
            refine q_ist0n rfl rfl rfl ?_
            refine q_iload_n rfl rfl rfl ?_
            refine q_iload_n rfl rfl rfl ?_
            refine q_iconst rfl rfl ?_
            refine q_iushr rfl rfl (q_tn (z := 1) rfl ?_)
            refine q_iadd rfl rfl (q_tn (z := 21) rfl ?_)
            refine q_ldcw rfl rfl ?_
            refine q_iand rfl rfl (q_tn (z := 5) rfl ?_)
            refine q_ist0n rfl rfl rfl ?_
            refine q_iload_n rfl rfl rfl ?_
            refine q_iload_n rfl rfl rfl ?_
            refine q_bipush rfl rfl ?_
            refine q_iushr rfl rfl (q_tn (z := 0) rfl ?_)
            refine q_iadd rfl rfl (q_tn (z := 5) rfl ?_)
            refine q_ist0n rfl rfl rfl ?_
            refine q_iload_n rfl rfl rfl ?_
            refine q_iload_n rfl rfl rfl ?_
            refine q_bipush rfl rfl ?_
            refine q_iushr rfl rfl (q_tn (z := 0) rfl ?_)
            refine q_iadd rfl rfl (q_tn (z := 5) rfl ?_)
            refine q_ist0n rfl rfl rfl ?_
            refine q_iload_n rfl rfl rfl ?_
            refine q_bipush rfl rfl ?_
            refine q_iand rfl rfl (q_tn (z := 5) rfl ?_)
            refine q_iret rfl rfl trivial ?_
            refine ⟨_, rfl, ?_⟩
            refine q_iload_n rfl rfl rfl ?_
            refine q_isub rfl rfl (q_tn (z := 5) rfl ?_)
            refine q_mmax (z := 5) rfl om_gp rfl rfl rfl ?_
            refine q_iret rfl rfl trivial ?_
            refine ⟨_, rfl, ?_⟩
            refine q_ist6 rfl rfl rfl rfl ?_
            refine q_aload_n rfl rfl rfl ?_
            refine q_getf rfl rfl (by decide) (FW_42 S hW) rfl ?_
            refine q_iload rfl rfl rfl ?_
            refine q_nS2 rfl rfl (Or.inr rfl) rfl rfl ⟨rfl, rfl⟩ rfl ?_
            change PQ _ _ _ mm_X11_says 0 [.long 0, pm_un, .int 8] [] _ _ 0 0 _
            refine q_lload_n rfl rfl rfl ?_
            refine q_iload_n rfl rfl rfl ?_
            refine q_lushr rfl rfl (q_tnl (z := 0) rfl ?_)
            refine q_lconst rfl rfl ?_
            refine q_land rfl rfl (q_tnl (z := 0) rfl ?_)
            refine q_lconst rfl rfl ?_
            refine q_lcmp rfl rfl (q_tn (z := 0) rfl ?_)
            refine q_ifeq rfl rfl (fun c585 => ?_) (fun c585 => absurd (by decide) c585)
            refine q_iconst rfl rfl ?_
            refine q_iret rfl rfl rfl ?_
            refine ⟨_, rfl, ?_⟩
            refine q_ifne rfl rfl (fun c586 => ?_) (fun c586 => absurd (by decide) c586)
            refine q_iload rfl rfl rfl ?_
            refine q_iload rfl rfl rfl ?_
            refine q_icge rfl rfl (fun c587 => ?_) (fun c587 => absurd (by decide) c587)
            refine q_icc5 (z := 9) rfl rfl rfl rfl rfl ?_
            refine q_goto rfl ?_
            refine q_iload rfl rfl rfl ?_
            refine q_bipush rfl rfl ?_
            refine q_icge rfl rfl (fun c588 => absurd c588 (by decide)) (fun c588 => ?_)
            refine q_aload_n rfl rfl rfl ?_
            refine q_iload_n rfl rfl rfl ?_
            refine q_iload rfl rfl rfl ?_
            refine q_nS3 rfl rfl (Or.inl rfl) rfl rfl ⟨rfl, rfl⟩ rfl ?_
            change PQ _ _ _ mm_X3_greaterPart 0 [.ref 45, .int 31, .int 9, pm_un, pm_un] [] _ _ 0 0 _
            refine q_iconst rfl rfl ?_
            refine q_ist3n rfl rfl rfl rfl ?_
            refine q_iconst rfl rfl ?_
            refine q_ist4 rfl rfl rfl rfl ?_
            refine q_iload rfl rfl rfl ?_
            refine q_aload_n rfl rfl rfl ?_
            refine q_alen rfl rfl (by decide) rfl rfl (q_tn (z := 5) rfl ?_)
            refine q_icge rfl rfl (fun c589 => absurd c589 (by decide)) (fun c589 => ?_)
            refine q_iload_n rfl rfl rfl ?_
            refine q_iload rfl rfl rfl ?_
            refine q_iushr rfl rfl (q_tn (z := 31) rfl ?_)
            refine q_iconst rfl rfl ?_
            refine q_iand rfl rfl (q_tn (z := 1) rfl ?_)
            refine q_ifeq rfl rfl (fun c590 => absurd c590 (by decide)) (fun c590 => ?_)
            refine q_aload_n rfl rfl rfl ?_
            refine q_iload rfl rfl rfl ?_
            refine q_lald rfl rfl (by decide) rfl (by decide) (q_tnl (z := 1074791425) rfl ?_)
            refine q_iload_n rfl rfl rfl ?_
            refine q_nS2 rfl rfl (Or.inr rfl) rfl rfl ⟨rfl, rfl⟩ rfl ?_
            change PQ _ _ _ mm_X11_says 0 [.long 1074791425, pm_un, .int 9] [] _ _ 0 0 _
            refine q_lload_n rfl rfl rfl ?_
            refine q_iload_n rfl rfl rfl ?_
            refine q_lushr rfl rfl (q_tnl (z := 2099202) rfl ?_)
            refine q_lconst rfl rfl ?_
            refine q_land rfl rfl (q_tnl (z := 0) rfl ?_)
            refine q_lconst rfl rfl ?_
            refine q_lcmp rfl rfl (q_tn (z := 0) rfl ?_)
            refine q_ifeq rfl rfl (fun c591 => ?_) (fun c591 => absurd (by decide) c591)
            refine q_iconst rfl rfl ?_
            refine q_iret rfl rfl rfl ?_
            refine ⟨_, rfl, ?_⟩
            refine q_ifeq rfl rfl (fun c592 => ?_) (fun c592 => absurd (by decide) c592)
            refine q_icc4 (z := 1) rfl rfl rfl rfl rfl ?_
            refine q_goto rfl ?_
            refine q_iload rfl rfl rfl ?_
            refine q_aload_n rfl rfl rfl ?_
            refine q_alen rfl rfl (by decide) rfl rfl (q_tn (z := 5) rfl ?_)
            refine q_icge rfl rfl (fun c593 => absurd c593 (by decide)) (fun c593 => ?_)
            refine q_iload_n rfl rfl rfl ?_
            refine q_iload rfl rfl rfl ?_
            refine q_iushr rfl rfl (q_tn (z := 15) rfl ?_)
            refine q_iconst rfl rfl ?_
            refine q_iand rfl rfl (q_tn (z := 1) rfl ?_)
            refine q_ifeq rfl rfl (fun c594 => absurd c594 (by decide)) (fun c594 => ?_)
            refine q_aload_n rfl rfl rfl ?_
            refine q_iload rfl rfl rfl ?_
            refine q_lald rfl rfl (by decide) rfl (by decide) (q_tnl (z := 1074791425) rfl ?_)
            refine q_iload_n rfl rfl rfl ?_
            refine q_nS2 rfl rfl (Or.inr rfl) rfl rfl ⟨rfl, rfl⟩ rfl ?_
            change PQ _ _ _ mm_X11_says 0 [.long 1074791425, pm_un, .int 9] [] _ _ 0 0 _
            refine q_lload_n rfl rfl rfl ?_
            refine q_iload_n rfl rfl rfl ?_
            refine q_lushr rfl rfl (q_tnl (z := 2099202) rfl ?_)
            refine q_lconst rfl rfl ?_
            refine q_land rfl rfl (q_tnl (z := 0) rfl ?_)
            refine q_lconst rfl rfl ?_
            refine q_lcmp rfl rfl (q_tn (z := 0) rfl ?_)
            refine q_ifeq rfl rfl (fun c595 => ?_) (fun c595 => absurd (by decide) c595)
            refine q_iconst rfl rfl ?_
            refine q_iret rfl rfl rfl ?_
            refine ⟨_, rfl, ?_⟩
            refine q_ifeq rfl rfl (fun c596 => ?_) (fun c596 => absurd (by decide) c596)
            refine q_icc4 (z := 2) rfl rfl rfl rfl rfl ?_
            refine q_goto rfl ?_
            refine q_iload rfl rfl rfl ?_
            refine q_aload_n rfl rfl rfl ?_
            refine q_alen rfl rfl (by decide) rfl rfl (q_tn (z := 5) rfl ?_)
            refine q_icge rfl rfl (fun c597 => absurd c597 (by decide)) (fun c597 => ?_)
            refine q_iload_n rfl rfl rfl ?_
            refine q_iload rfl rfl rfl ?_
            refine q_iushr rfl rfl (q_tn (z := 7) rfl ?_)
            refine q_iconst rfl rfl ?_
            refine q_iand rfl rfl (q_tn (z := 1) rfl ?_)
            refine q_ifeq rfl rfl (fun c598 => absurd c598 (by decide)) (fun c598 => ?_)
            refine q_aload_n rfl rfl rfl ?_
            refine q_iload rfl rfl rfl ?_
            refine q_lald rfl rfl (by decide) rfl (by decide) (q_tnl (z := 1074791425) rfl ?_)
            refine q_iload_n rfl rfl rfl ?_
            refine q_nS2 rfl rfl (Or.inr rfl) rfl rfl ⟨rfl, rfl⟩ rfl ?_
            change PQ _ _ _ mm_X11_says 0 [.long 1074791425, pm_un, .int 9] [] _ _ 0 0 _
            refine q_lload_n rfl rfl rfl ?_
            refine q_iload_n rfl rfl rfl ?_
            refine q_lushr rfl rfl (q_tnl (z := 2099202) rfl ?_)
            refine q_lconst rfl rfl ?_
            refine q_land rfl rfl (q_tnl (z := 0) rfl ?_)
            refine q_lconst rfl rfl ?_
            refine q_lcmp rfl rfl (q_tn (z := 0) rfl ?_)
            refine q_ifeq rfl rfl (fun c599 => ?_) (fun c599 => absurd (by decide) c599)
            refine q_iconst rfl rfl ?_
            refine q_iret rfl rfl rfl ?_
            refine ⟨_, rfl, ?_⟩
            refine q_ifeq rfl rfl (fun c600 => ?_) (fun c600 => absurd (by decide) c600)
            refine q_icc4 (z := 3) rfl rfl rfl rfl rfl ?_
            refine q_goto rfl ?_
            refine q_iload rfl rfl rfl ?_
            refine q_aload_n rfl rfl rfl ?_
            refine q_alen rfl rfl (by decide) rfl rfl (q_tn (z := 5) rfl ?_)
            as_aux_lemma =>
              refine q_icge rfl rfl (fun c601 => absurd c601 (by decide)) (fun c601 => ?_)
              refine q_iload_n rfl rfl rfl ?_
              refine q_iload rfl rfl rfl ?_
              refine q_iushr rfl rfl (q_tn (z := 3) rfl ?_)
              refine q_iconst rfl rfl ?_
              refine q_iand rfl rfl (q_tn (z := 1) rfl ?_)
              refine q_ifeq rfl rfl (fun c602 => absurd c602 (by decide)) (fun c602 => ?_)
              refine q_aload_n rfl rfl rfl ?_
              refine q_iload rfl rfl rfl ?_
              refine q_lald rfl rfl (by decide) rfl (by decide) (q_tnl (z := 1074791425) rfl ?_)
              refine q_iload_n rfl rfl rfl ?_
              refine q_nS2 rfl rfl (Or.inr rfl) rfl rfl ⟨rfl, rfl⟩ rfl ?_
              change PQ _ _ _ mm_X11_says 0 [.long 1074791425, pm_un, .int 9] [] _ _ 0 0 _
              refine q_lload_n rfl rfl rfl ?_
              refine q_iload_n rfl rfl rfl ?_
              refine q_lushr rfl rfl (q_tnl (z := 2099202) rfl ?_)
              refine q_lconst rfl rfl ?_
              refine q_land rfl rfl (q_tnl (z := 0) rfl ?_)
              refine q_lconst rfl rfl ?_
              refine q_lcmp rfl rfl (q_tn (z := 0) rfl ?_)
              refine q_ifeq rfl rfl (fun c603 => ?_) (fun c603 => absurd (by decide) c603)
              refine q_iconst rfl rfl ?_
              refine q_iret rfl rfl rfl ?_
              refine ⟨_, rfl, ?_⟩
              refine q_ifeq rfl rfl (fun c604 => ?_) (fun c604 => absurd (by decide) c604)
              refine q_icc4 (z := 4) rfl rfl rfl rfl rfl ?_
              refine q_goto rfl ?_
              refine q_iload rfl rfl rfl ?_
              refine q_aload_n rfl rfl rfl ?_
              refine q_alen rfl rfl (by decide) rfl rfl (q_tn (z := 5) rfl ?_)
              refine q_icge rfl rfl (fun c605 => absurd c605 (by decide)) (fun c605 => ?_)
              refine q_iload_n rfl rfl rfl ?_
              refine q_iload rfl rfl rfl ?_
              refine q_iushr rfl rfl (q_tn (z := 1) rfl ?_)
              refine q_iconst rfl rfl ?_
              refine q_iand rfl rfl (q_tn (z := 1) rfl ?_)
              refine q_ifeq rfl rfl (fun c606 => absurd c606 (by decide)) (fun c606 => ?_)
              refine q_aload_n rfl rfl rfl ?_
              refine q_iload rfl rfl rfl ?_
              refine q_lald rfl rfl (by decide) rfl (by decide) (q_tnl (z := 1074791425) rfl ?_)
              refine q_iload_n rfl rfl rfl ?_
              refine q_nS2 rfl rfl (Or.inr rfl) rfl rfl ⟨rfl, rfl⟩ rfl ?_
              change PQ _ _ _ mm_X11_says 0 [.long 1074791425, pm_un, .int 9] [] _ _ 0 0 _
              refine q_lload_n rfl rfl rfl ?_
              refine q_iload_n rfl rfl rfl ?_
              refine q_lushr rfl rfl (q_tnl (z := 2099202) rfl ?_)
              refine q_lconst rfl rfl ?_
              refine q_land rfl rfl (q_tnl (z := 0) rfl ?_)
              refine q_lconst rfl rfl ?_
              refine q_lcmp rfl rfl (q_tn (z := 0) rfl ?_)
              refine q_ifeq rfl rfl (fun c607 => ?_) (fun c607 => absurd (by decide) c607)
              refine q_iconst rfl rfl ?_
              refine q_iret rfl rfl rfl ?_
              refine ⟨_, rfl, ?_⟩
              refine q_ifeq rfl rfl (fun c608 => ?_) (fun c608 => absurd (by decide) c608)
              refine q_icc4 (z := 5) rfl rfl rfl rfl rfl ?_
              refine q_goto rfl ?_
              refine q_iload rfl rfl rfl ?_
              refine q_aload_n rfl rfl rfl ?_
              refine q_alen rfl rfl (by decide) rfl rfl (q_tn (z := 5) rfl ?_)
              refine q_icge rfl rfl (fun c609 => ?_) (fun c609 => absurd (by decide) c609)
              refine q_iload_n rfl rfl rfl ?_
              refine q_iload_n rfl rfl rfl ?_
              refine q_nS1 rfl rfl (Or.inl rfl) rfl rfl ⟨rfl, rfl⟩ rfl ?_
              change PQ _ _ _ mm_J6_bitCount_0f7a4 0 [.int 31] [] _ _ 0 0 _
              refine q_iload_n rfl rfl rfl ?_
              refine q_iload_n rfl rfl rfl ?_
              refine q_iconst rfl rfl ?_
              refine q_iushr rfl rfl (q_tn (z := 15) rfl ?_)
              refine q_ldcw rfl rfl ?_
              refine q_iand rfl rfl (q_tn (z := 5) rfl ?_)
              refine q_isub rfl rfl (q_tn (z := 26) rfl ?_)
              refine q_ist0n rfl rfl rfl ?_
              refine q_iload_n rfl rfl rfl ?_
              refine q_ldcw rfl rfl ?_
              refine q_iand rfl rfl (q_tn (z := 18) rfl ?_)
              refine q_iload_n rfl rfl rfl ?_
              refine q_iconst rfl rfl ?_
              refine q_iushr rfl rfl (q_tn (z := 6) rfl ?_)
              refine q_ldcw rfl rfl ?_
              refine q_iand rfl rfl (q_tn (z := 2) rfl ?_)
              refine q_iadd rfl rfl (q_tn (z := 20) rfl ?_)
              refine q_ist0n rfl rfl rfl ?_
              refine q_iload_n rfl rfl rfl ?_
              refine q_iload_n rfl rfl rfl ?_
              refine q_iconst rfl rfl ?_
              refine q_iushr rfl rfl (q_tn (z := 1) rfl ?_)
              refine q_iadd rfl rfl (q_tn (z := 21) rfl ?_)
              refine q_ldcw rfl rfl ?_
              refine q_iand rfl rfl (q_tn (z := 5) rfl ?_)
              refine q_ist0n rfl rfl rfl ?_
              refine q_iload_n rfl rfl rfl ?_
              refine q_iload_n rfl rfl rfl ?_
              refine q_bipush rfl rfl ?_
              refine q_iushr rfl rfl (q_tn (z := 0) rfl ?_)
              refine q_iadd rfl rfl (q_tn (z := 5) rfl ?_)
              refine q_ist0n rfl rfl rfl ?_
              refine q_iload_n rfl rfl rfl ?_
              refine q_iload_n rfl rfl rfl ?_
              refine q_bipush rfl rfl ?_
              refine q_iushr rfl rfl (q_tn (z := 0) rfl ?_)
              refine q_iadd rfl rfl (q_tn (z := 5) rfl ?_)
              refine q_ist0n rfl rfl rfl ?_
              refine q_iload_n rfl rfl rfl ?_
              refine q_bipush rfl rfl ?_
              refine q_iand rfl rfl (q_tn (z := 5) rfl ?_)
              refine q_iret rfl rfl trivial ?_
              refine ⟨_, rfl, ?_⟩
              refine q_iload_n rfl rfl rfl ?_
              refine q_isub rfl rfl (q_tn (z := 5) rfl ?_)
              refine q_mmax (z := 5) rfl om_gp rfl rfl rfl ?_
              refine q_iret rfl rfl trivial ?_
              refine ⟨_, rfl, ?_⟩
              refine q_ist6 rfl rfl rfl rfl ?_
              refine q_aload_n rfl rfl rfl ?_
              refine q_getf rfl rfl (by decide) (FW_42 S hW) rfl ?_
              refine q_iload rfl rfl rfl ?_
              refine q_nS2 rfl rfl (Or.inr rfl) rfl rfl ⟨rfl, rfl⟩ rfl ?_
              change PQ _ _ _ mm_X11_says 0 [.long 0, pm_un, .int 9] [] _ _ 0 0 _
              refine q_lload_n rfl rfl rfl ?_
              refine q_iload_n rfl rfl rfl ?_
              refine q_lushr rfl rfl (q_tnl (z := 0) rfl ?_)
              refine q_lconst rfl rfl ?_
              refine q_land rfl rfl (q_tnl (z := 0) rfl ?_)
              refine q_lconst rfl rfl ?_
              refine q_lcmp rfl rfl (q_tn (z := 0) rfl ?_)
              refine q_ifeq rfl rfl (fun c610 => ?_) (fun c610 => absurd (by decide) c610)
              refine q_iconst rfl rfl ?_
              refine q_iret rfl rfl rfl ?_
              refine ⟨_, rfl, ?_⟩
              refine q_ifne rfl rfl (fun c611 => ?_) (fun c611 => absurd (by decide) c611)
              refine q_iload rfl rfl rfl ?_
              refine q_iload rfl rfl rfl ?_
              refine q_icge rfl rfl (fun c612 => ?_) (fun c612 => absurd (by decide) c612)
              refine q_icc5 (z := 10) rfl rfl rfl rfl rfl ?_
              refine q_goto rfl ?_
              refine q_iload rfl rfl rfl ?_
              refine q_bipush rfl rfl ?_
              refine q_icge rfl rfl (fun c613 => absurd c613 (by decide)) (fun c613 => ?_)
              refine q_aload_n rfl rfl rfl ?_
              refine q_iload_n rfl rfl rfl ?_
              refine q_iload rfl rfl rfl ?_
              refine q_nS3 rfl rfl (Or.inl rfl) rfl rfl ⟨rfl, rfl⟩ rfl ?_
              change PQ _ _ _ mm_X3_greaterPart 0 [.ref 45, .int 31, .int 10, pm_un, pm_un] [] _ _ 0 0 _
              refine q_iconst rfl rfl ?_
              refine q_ist3n rfl rfl rfl rfl ?_
              refine q_iconst rfl rfl ?_
              refine q_ist4 rfl rfl rfl rfl ?_
              refine q_iload rfl rfl rfl ?_
              refine q_aload_n rfl rfl rfl ?_
              refine q_alen rfl rfl (by decide) rfl rfl (q_tn (z := 5) rfl ?_)
              refine q_icge rfl rfl (fun c614 => absurd c614 (by decide)) (fun c614 => ?_)
              refine q_iload_n rfl rfl rfl ?_
              refine q_iload rfl rfl rfl ?_
              refine q_iushr rfl rfl (q_tn (z := 31) rfl ?_)
              refine q_iconst rfl rfl ?_
              refine q_iand rfl rfl (q_tn (z := 1) rfl ?_)
              refine q_ifeq rfl rfl (fun c615 => absurd c615 (by decide)) (fun c615 => ?_)
              refine q_aload_n rfl rfl rfl ?_
              refine q_iload rfl rfl rfl ?_
              refine q_lald rfl rfl (by decide) rfl (by decide) (q_tnl (z := 1074791425) rfl ?_)
              refine q_iload_n rfl rfl rfl ?_
              refine q_nS2 rfl rfl (Or.inr rfl) rfl rfl ⟨rfl, rfl⟩ rfl ?_
              change PQ _ _ _ mm_X11_says 0 [.long 1074791425, pm_un, .int 10] [] _ _ 0 0 _
              refine q_lload_n rfl rfl rfl ?_
              refine q_iload_n rfl rfl rfl ?_
              refine q_lushr rfl rfl (q_tnl (z := 1049601) rfl ?_)
              refine q_lconst rfl rfl ?_
              refine q_land rfl rfl (q_tnl (z := 1) rfl ?_)
              refine q_lconst rfl rfl ?_
              refine q_lcmp rfl rfl (q_tn (z := 1) rfl ?_)
              refine q_ifeq rfl rfl (fun c616 => absurd c616 (by decide)) (fun c616 => ?_)
              refine q_iconst rfl rfl ?_
              refine q_goto rfl ?_
              refine q_iret rfl rfl rfl ?_
              refine ⟨_, rfl, ?_⟩
              refine q_ifeq rfl rfl (fun c617 => absurd c617 (by decide)) (fun c617 => ?_)
              refine q_icc3 (z := 1) rfl rfl rfl rfl rfl ?_
              refine q_icc4 (z := 1) rfl rfl rfl rfl rfl ?_
              refine q_goto rfl ?_
              refine q_iload rfl rfl rfl ?_
              refine q_aload_n rfl rfl rfl ?_
              refine q_alen rfl rfl (by decide) rfl rfl (q_tn (z := 5) rfl ?_)
              refine q_icge rfl rfl (fun c618 => absurd c618 (by decide)) (fun c618 => ?_)
              refine q_iload_n rfl rfl rfl ?_
              refine q_iload rfl rfl rfl ?_
              refine q_iushr rfl rfl (q_tn (z := 15) rfl ?_)
              refine q_iconst rfl rfl ?_
              refine q_iand rfl rfl (q_tn (z := 1) rfl ?_)
              refine q_ifeq rfl rfl (fun c619 => absurd c619 (by decide)) (fun c619 => ?_)
              refine q_aload_n rfl rfl rfl ?_
              refine q_iload rfl rfl rfl ?_
              refine q_lald rfl rfl (by decide) rfl (by decide) (q_tnl (z := 1074791425) rfl ?_)
              refine q_iload_n rfl rfl rfl ?_
              refine q_nS2 rfl rfl (Or.inr rfl) rfl rfl ⟨rfl, rfl⟩ rfl ?_
              change PQ _ _ _ mm_X11_says 0 [.long 1074791425, pm_un, .int 10] [] _ _ 0 0 _
              refine q_lload_n rfl rfl rfl ?_
              refine q_iload_n rfl rfl rfl ?_
              refine q_lushr rfl rfl (q_tnl (z := 1049601) rfl ?_)
              refine q_lconst rfl rfl ?_
              refine q_land rfl rfl (q_tnl (z := 1) rfl ?_)
              refine q_lconst rfl rfl ?_
              refine q_lcmp rfl rfl (q_tn (z := 1) rfl ?_)
              refine q_ifeq rfl rfl (fun c620 => absurd c620 (by decide)) (fun c620 => ?_)
              refine q_iconst rfl rfl ?_
              refine q_goto rfl ?_
              refine q_iret rfl rfl rfl ?_
              refine ⟨_, rfl, ?_⟩
              refine q_ifeq rfl rfl (fun c621 => absurd c621 (by decide)) (fun c621 => ?_)
              refine q_icc3 (z := 2) rfl rfl rfl rfl rfl ?_
              refine q_icc4 (z := 2) rfl rfl rfl rfl rfl ?_
              refine q_goto rfl ?_
              refine q_iload rfl rfl rfl ?_
              refine q_aload_n rfl rfl rfl ?_
              refine q_alen rfl rfl (by decide) rfl rfl (q_tn (z := 5) rfl ?_)
              refine q_icge rfl rfl (fun c622 => absurd c622 (by decide)) (fun c622 => ?_)
              refine q_iload_n rfl rfl rfl ?_
              refine q_iload rfl rfl rfl ?_
              refine q_iushr rfl rfl (q_tn (z := 7) rfl ?_)
              refine q_iconst rfl rfl ?_
              refine q_iand rfl rfl (q_tn (z := 1) rfl ?_)
              refine q_ifeq rfl rfl (fun c623 => absurd c623 (by decide)) (fun c623 => ?_)
              refine q_aload_n rfl rfl rfl ?_
              refine q_iload rfl rfl rfl ?_
              refine q_lald rfl rfl (by decide) rfl (by decide) (q_tnl (z := 1074791425) rfl ?_)
              refine q_iload_n rfl rfl rfl ?_
              refine q_nS2 rfl rfl (Or.inr rfl) rfl rfl ⟨rfl, rfl⟩ rfl ?_
              change PQ _ _ _ mm_X11_says 0 [.long 1074791425, pm_un, .int 10] [] _ _ 0 0 _
              refine q_lload_n rfl rfl rfl ?_
              refine q_iload_n rfl rfl rfl ?_
              refine q_lushr rfl rfl (q_tnl (z := 1049601) rfl ?_)
              refine q_lconst rfl rfl ?_
              refine q_land rfl rfl (q_tnl (z := 1) rfl ?_)
              refine q_lconst rfl rfl ?_
              refine q_lcmp rfl rfl (q_tn (z := 1) rfl ?_)
              refine q_ifeq rfl rfl (fun c624 => absurd c624 (by decide)) (fun c624 => ?_)
              refine q_iconst rfl rfl ?_
              refine q_goto rfl ?_
              refine q_iret rfl rfl rfl ?_
              refine ⟨_, rfl, ?_⟩
              refine q_ifeq rfl rfl (fun c625 => absurd c625 (by decide)) (fun c625 => ?_)
              refine q_icc3 (z := 3) rfl rfl rfl rfl rfl ?_
              refine q_icc4 (z := 3) rfl rfl rfl rfl rfl ?_
              refine q_goto rfl ?_
              refine q_iload rfl rfl rfl ?_
              refine q_aload_n rfl rfl rfl ?_
              refine q_alen rfl rfl (by decide) rfl rfl (q_tn (z := 5) rfl ?_)
              refine q_icge rfl rfl (fun c626 => absurd c626 (by decide)) (fun c626 => ?_)
              refine q_iload_n rfl rfl rfl ?_
              refine q_iload rfl rfl rfl ?_
              refine q_iushr rfl rfl (q_tn (z := 3) rfl ?_)
              refine q_iconst rfl rfl ?_
              refine q_iand rfl rfl (q_tn (z := 1) rfl ?_)
              refine q_ifeq rfl rfl (fun c627 => absurd c627 (by decide)) (fun c627 => ?_)
              refine q_aload_n rfl rfl rfl ?_
              refine q_iload rfl rfl rfl ?_
              refine q_lald rfl rfl (by decide) rfl (by decide) (q_tnl (z := 1074791425) rfl ?_)
              refine q_iload_n rfl rfl rfl ?_
              refine q_nS2 rfl rfl (Or.inr rfl) rfl rfl ⟨rfl, rfl⟩ rfl ?_
              change PQ _ _ _ mm_X11_says 0 [.long 1074791425, pm_un, .int 10] [] _ _ 0 0 _
              refine q_lload_n rfl rfl rfl ?_
              refine q_iload_n rfl rfl rfl ?_
              refine q_lushr rfl rfl (q_tnl (z := 1049601) rfl ?_)
              refine q_lconst rfl rfl ?_
              refine q_land rfl rfl (q_tnl (z := 1) rfl ?_)
              refine q_lconst rfl rfl ?_
              refine q_lcmp rfl rfl (q_tn (z := 1) rfl ?_)
              refine q_ifeq rfl rfl (fun c628 => absurd c628 (by decide)) (fun c628 => ?_)
              refine q_iconst rfl rfl ?_
              refine q_goto rfl ?_
              refine q_iret rfl rfl rfl ?_
              refine ⟨_, rfl, ?_⟩
              refine q_ifeq rfl rfl (fun c629 => absurd c629 (by decide)) (fun c629 => ?_)
              refine q_icc3 (z := 4) rfl rfl rfl rfl rfl ?_
              refine q_icc4 (z := 4) rfl rfl rfl rfl rfl ?_
              refine q_goto rfl ?_
              refine q_iload rfl rfl rfl ?_
              refine q_aload_n rfl rfl rfl ?_
              refine q_alen rfl rfl (by decide) rfl rfl (q_tn (z := 5) rfl ?_)
              refine q_icge rfl rfl (fun c630 => absurd c630 (by decide)) (fun c630 => ?_)
              refine q_iload_n rfl rfl rfl ?_
              refine q_iload rfl rfl rfl ?_
              refine q_iushr rfl rfl (q_tn (z := 1) rfl ?_)
              refine q_iconst rfl rfl ?_
              refine q_iand rfl rfl (q_tn (z := 1) rfl ?_)
              refine q_ifeq rfl rfl (fun c631 => absurd c631 (by decide)) (fun c631 => ?_)
              refine q_aload_n rfl rfl rfl ?_
              refine q_iload rfl rfl rfl ?_
              refine q_lald rfl rfl (by decide) rfl (by decide) (q_tnl (z := 1074791425) rfl ?_)
              refine q_iload_n rfl rfl rfl ?_
              refine q_nS2 rfl rfl (Or.inr rfl) rfl rfl ⟨rfl, rfl⟩ rfl ?_
              change PQ _ _ _ mm_X11_says 0 [.long 1074791425, pm_un, .int 10] [] _ _ 0 0 _
              refine q_lload_n rfl rfl rfl ?_
              refine q_iload_n rfl rfl rfl ?_
              refine q_lushr rfl rfl (q_tnl (z := 1049601) rfl ?_)
              refine q_lconst rfl rfl ?_
              refine q_land rfl rfl (q_tnl (z := 1) rfl ?_)
              refine q_lconst rfl rfl ?_
              refine q_lcmp rfl rfl (q_tn (z := 1) rfl ?_)
              refine q_ifeq rfl rfl (fun c632 => absurd c632 (by decide)) (fun c632 => ?_)
              refine q_iconst rfl rfl ?_
              refine q_goto rfl ?_
              refine q_iret rfl rfl rfl ?_
              refine ⟨_, rfl, ?_⟩
              refine q_ifeq rfl rfl (fun c633 => absurd c633 (by decide)) (fun c633 => ?_)
              refine q_icc3 (z := 5) rfl rfl rfl rfl rfl ?_
              refine q_icc4 (z := 5) rfl rfl rfl rfl rfl ?_
              refine q_goto rfl ?_
              refine q_iload rfl rfl rfl ?_
              refine q_aload_n rfl rfl rfl ?_
              refine q_alen rfl rfl (by decide) rfl rfl (q_tn (z := 5) rfl ?_)
              refine q_icge rfl rfl (fun c634 => ?_) (fun c634 => absurd (by decide) c634)
              refine q_iload_n rfl rfl rfl ?_
              refine q_iload_n rfl rfl rfl ?_
              refine q_nS1 rfl rfl (Or.inl rfl) rfl rfl ⟨rfl, rfl⟩ rfl ?_
              change PQ _ _ _ mm_J6_bitCount_0f7a4 0 [.int 31] [] _ _ 0 0 _
              refine q_iload_n rfl rfl rfl ?_
              refine q_iload_n rfl rfl rfl ?_
              refine q_iconst rfl rfl ?_
              refine q_iushr rfl rfl (q_tn (z := 15) rfl ?_)
              refine q_ldcw rfl rfl ?_
              refine q_iand rfl rfl (q_tn (z := 5) rfl ?_)
              refine q_isub rfl rfl (q_tn (z := 26) rfl ?_)
              refine q_ist0n rfl rfl rfl ?_
              refine q_iload_n rfl rfl rfl ?_
              refine q_ldcw rfl rfl ?_
              refine q_iand rfl rfl (q_tn (z := 18) rfl ?_)
              refine q_iload_n rfl rfl rfl ?_
              refine q_iconst rfl rfl ?_
              refine q_iushr rfl rfl (q_tn (z := 6) rfl ?_)
              refine q_ldcw rfl rfl ?_
              refine q_iand rfl rfl (q_tn (z := 2) rfl ?_)
              refine q_iadd rfl rfl (q_tn (z := 20) rfl ?_)
              refine q_ist0n rfl rfl rfl ?_
              refine q_iload_n rfl rfl rfl ?_
              refine q_iload_n rfl rfl rfl ?_
              refine q_iconst rfl rfl ?_
              refine q_iushr rfl rfl (q_tn (z := 1) rfl ?_)
              refine q_iadd rfl rfl (q_tn (z := 21) rfl ?_)
              refine q_ldcw rfl rfl ?_
              refine q_iand rfl rfl (q_tn (z := 5) rfl ?_)
              refine q_ist0n rfl rfl rfl ?_
              refine q_iload_n rfl rfl rfl ?_
              refine q_iload_n rfl rfl rfl ?_
              refine q_bipush rfl rfl ?_
              refine q_iushr rfl rfl (q_tn (z := 0) rfl ?_)
              refine q_iadd rfl rfl (q_tn (z := 5) rfl ?_)
              refine q_ist0n rfl rfl rfl ?_
              refine q_iload_n rfl rfl rfl ?_
              refine q_iload_n rfl rfl rfl ?_
              refine q_bipush rfl rfl ?_
              refine q_iushr rfl rfl (q_tn (z := 0) rfl ?_)
              refine q_iadd rfl rfl (q_tn (z := 5) rfl ?_)
              refine q_ist0n rfl rfl rfl ?_
              refine q_iload_n rfl rfl rfl ?_
              refine q_bipush rfl rfl ?_
              refine q_iand rfl rfl (q_tn (z := 5) rfl ?_)
              refine q_iret rfl rfl trivial ?_
              refine ⟨_, rfl, ?_⟩
              refine q_iload_n rfl rfl rfl ?_
              refine q_isub rfl rfl (q_tn (z := 0) rfl ?_)
              refine q_mmax (z := 5) rfl om_gp rfl rfl rfl ?_
              refine q_iret rfl rfl trivial ?_
              refine ⟨_, rfl, ?_⟩
              refine q_ist6 rfl rfl rfl rfl ?_
              refine q_aload_n rfl rfl rfl ?_
              refine q_getf rfl rfl (by decide) (FW_42 S hW) rfl ?_
              refine q_iload rfl rfl rfl ?_
              refine q_nS2 rfl rfl (Or.inr rfl) rfl rfl ⟨rfl, rfl⟩ rfl ?_
              change PQ _ _ _ mm_X11_says 0 [.long 0, pm_un, .int 10] [] _ _ 0 0 _
              refine q_lload_n rfl rfl rfl ?_
              refine q_iload_n rfl rfl rfl ?_
              refine q_lushr rfl rfl (q_tnl (z := 0) rfl ?_)
              refine q_lconst rfl rfl ?_
              refine q_land rfl rfl (q_tnl (z := 0) rfl ?_)
              refine q_lconst rfl rfl ?_
              refine q_lcmp rfl rfl (q_tn (z := 0) rfl ?_)
              refine q_ifeq rfl rfl (fun c635 => ?_) (fun c635 => absurd (by decide) c635)
              refine q_iconst rfl rfl ?_
              refine q_iret rfl rfl rfl ?_
              refine ⟨_, rfl, ?_⟩
              refine q_ifne rfl rfl (fun c636 => ?_) (fun c636 => absurd (by decide) c636)
              refine q_iload rfl rfl rfl ?_
              refine q_iload rfl rfl rfl ?_
              refine q_icge rfl rfl (fun c637 => ?_) (fun c637 => absurd (by decide) c637)
              refine q_icc5 (z := 11) rfl rfl rfl rfl rfl ?_
              refine q_goto rfl ?_
              refine q_iload rfl rfl rfl ?_
              refine q_bipush rfl rfl ?_
              refine q_icge rfl rfl (fun c638 => absurd c638 (by decide)) (fun c638 => ?_)
              refine q_aload_n rfl rfl rfl ?_
              refine q_iload_n rfl rfl rfl ?_
              refine q_iload rfl rfl rfl ?_
              refine q_nS3 rfl rfl (Or.inl rfl) rfl rfl ⟨rfl, rfl⟩ rfl ?_
              change PQ _ _ _ mm_X3_greaterPart 0 [.ref 45, .int 31, .int 11, pm_un, pm_un] [] _ _ 0 0 _
              refine q_iconst rfl rfl ?_
              refine q_ist3n rfl rfl rfl rfl ?_
              refine q_iconst rfl rfl ?_
              refine q_ist4 rfl rfl rfl rfl ?_
              refine q_iload rfl rfl rfl ?_
              refine q_aload_n rfl rfl rfl ?_
              refine q_alen rfl rfl (by decide) rfl rfl (q_tn (z := 5) rfl ?_)
              refine q_icge rfl rfl (fun c639 => absurd c639 (by decide)) (fun c639 => ?_)
              refine q_iload_n rfl rfl rfl ?_
              refine q_iload rfl rfl rfl ?_
              refine q_iushr rfl rfl (q_tn (z := 31) rfl ?_)
              refine q_iconst rfl rfl ?_
              refine q_iand rfl rfl (q_tn (z := 1) rfl ?_)
              refine q_ifeq rfl rfl (fun c640 => absurd c640 (by decide)) (fun c640 => ?_)
              refine q_aload_n rfl rfl rfl ?_
              refine q_iload rfl rfl rfl ?_
              refine q_lald rfl rfl (by decide) rfl (by decide) (q_tnl (z := 1074791425) rfl ?_)
              refine q_iload_n rfl rfl rfl ?_
              refine q_nS2 rfl rfl (Or.inr rfl) rfl rfl ⟨rfl, rfl⟩ rfl ?_
              change PQ _ _ _ mm_X11_says 0 [.long 1074791425, pm_un, .int 11] [] _ _ 0 0 _
              refine q_lload_n rfl rfl rfl ?_
              refine q_iload_n rfl rfl rfl ?_
              refine q_lushr rfl rfl (q_tnl (z := 524800) rfl ?_)
              refine q_lconst rfl rfl ?_
              refine q_land rfl rfl (q_tnl (z := 0) rfl ?_)
              refine q_lconst rfl rfl ?_
              refine q_lcmp rfl rfl (q_tn (z := 0) rfl ?_)
              refine q_ifeq rfl rfl (fun c641 => ?_) (fun c641 => absurd (by decide) c641)
              refine q_iconst rfl rfl ?_
              refine q_iret rfl rfl rfl ?_
              refine ⟨_, rfl, ?_⟩
              refine q_ifeq rfl rfl (fun c642 => ?_) (fun c642 => absurd (by decide) c642)
              refine q_icc4 (z := 1) rfl rfl rfl rfl rfl ?_
              refine q_goto rfl ?_
              refine q_iload rfl rfl rfl ?_
              refine q_aload_n rfl rfl rfl ?_
              refine q_alen rfl rfl (by decide) rfl rfl (q_tn (z := 5) rfl ?_)
              refine q_icge rfl rfl (fun c643 => absurd c643 (by decide)) (fun c643 => ?_)
              refine q_iload_n rfl rfl rfl ?_
              refine q_iload rfl rfl rfl ?_
              refine q_iushr rfl rfl (q_tn (z := 15) rfl ?_)
              refine q_iconst rfl rfl ?_
              refine q_iand rfl rfl (q_tn (z := 1) rfl ?_)
              refine q_ifeq rfl rfl (fun c644 => absurd c644 (by decide)) (fun c644 => ?_)
              refine q_aload_n rfl rfl rfl ?_
              refine q_iload rfl rfl rfl ?_
              refine q_lald rfl rfl (by decide) rfl (by decide) (q_tnl (z := 1074791425) rfl ?_)
              refine q_iload_n rfl rfl rfl ?_
              refine q_nS2 rfl rfl (Or.inr rfl) rfl rfl ⟨rfl, rfl⟩ rfl ?_
              change PQ _ _ _ mm_X11_says 0 [.long 1074791425, pm_un, .int 11] [] _ _ 0 0 _
              refine q_lload_n rfl rfl rfl ?_
              refine q_iload_n rfl rfl rfl ?_
              refine q_lushr rfl rfl (q_tnl (z := 524800) rfl ?_)
              refine q_lconst rfl rfl ?_
              refine q_land rfl rfl (q_tnl (z := 0) rfl ?_)
              refine q_lconst rfl rfl ?_
              refine q_lcmp rfl rfl (q_tn (z := 0) rfl ?_)
              refine q_ifeq rfl rfl (fun c645 => ?_) (fun c645 => absurd (by decide) c645)
              refine q_iconst rfl rfl ?_
              refine q_iret rfl rfl rfl ?_
              refine ⟨_, rfl, ?_⟩
              refine q_ifeq rfl rfl (fun c646 => ?_) (fun c646 => absurd (by decide) c646)
              refine q_icc4 (z := 2) rfl rfl rfl rfl rfl ?_
              refine q_goto rfl ?_
              refine q_iload rfl rfl rfl ?_
              refine q_aload_n rfl rfl rfl ?_
              refine q_alen rfl rfl (by decide) rfl rfl (q_tn (z := 5) rfl ?_)
              refine q_icge rfl rfl (fun c647 => absurd c647 (by decide)) (fun c647 => ?_)
              refine q_iload_n rfl rfl rfl ?_
              refine q_iload rfl rfl rfl ?_
              refine q_iushr rfl rfl (q_tn (z := 7) rfl ?_)
              refine q_iconst rfl rfl ?_
              refine q_iand rfl rfl (q_tn (z := 1) rfl ?_)
              refine q_ifeq rfl rfl (fun c648 => absurd c648 (by decide)) (fun c648 => ?_)
              refine q_aload_n rfl rfl rfl ?_
              refine q_iload rfl rfl rfl ?_
              refine q_lald rfl rfl (by decide) rfl (by decide) (q_tnl (z := 1074791425) rfl ?_)
              refine q_iload_n rfl rfl rfl ?_
              refine q_nS2 rfl rfl (Or.inr rfl) rfl rfl ⟨rfl, rfl⟩ rfl ?_
              change PQ _ _ _ mm_X11_says 0 [.long 1074791425, pm_un, .int 11] [] _ _ 0 0 _
              refine q_lload_n rfl rfl rfl ?_
              refine q_iload_n rfl rfl rfl ?_
              refine q_lushr rfl rfl (q_tnl (z := 524800) rfl ?_)
              refine q_lconst rfl rfl ?_
              refine q_land rfl rfl (q_tnl (z := 0) rfl ?_)
              refine q_lconst rfl rfl ?_
              refine q_lcmp rfl rfl (q_tn (z := 0) rfl ?_)
              refine q_ifeq rfl rfl (fun c649 => ?_) (fun c649 => absurd (by decide) c649)
              refine q_iconst rfl rfl ?_
              refine q_iret rfl rfl rfl ?_
              refine ⟨_, rfl, ?_⟩
              refine q_ifeq rfl rfl (fun c650 => ?_) (fun c650 => absurd (by decide) c650)
              refine q_icc4 (z := 3) rfl rfl rfl rfl rfl ?_
              refine q_goto rfl ?_
              refine q_iload rfl rfl rfl ?_
              refine q_aload_n rfl rfl rfl ?_
              refine q_alen rfl rfl (by decide) rfl rfl (q_tn (z := 5) rfl ?_)
              refine q_icge rfl rfl (fun c651 => absurd c651 (by decide)) (fun c651 => ?_)
              refine q_iload_n rfl rfl rfl ?_
              refine q_iload rfl rfl rfl ?_
              refine q_iushr rfl rfl (q_tn (z := 3) rfl ?_)
              refine q_iconst rfl rfl ?_
              refine q_iand rfl rfl (q_tn (z := 1) rfl ?_)
              refine q_ifeq rfl rfl (fun c652 => absurd c652 (by decide)) (fun c652 => ?_)
              refine q_aload_n rfl rfl rfl ?_
              refine q_iload rfl rfl rfl ?_
              refine q_lald rfl rfl (by decide) rfl (by decide) (q_tnl (z := 1074791425) rfl ?_)
              refine q_iload_n rfl rfl rfl ?_
              refine q_nS2 rfl rfl (Or.inr rfl) rfl rfl ⟨rfl, rfl⟩ rfl ?_
              change PQ _ _ _ mm_X11_says 0 [.long 1074791425, pm_un, .int 11] [] _ _ 0 0 _
              refine q_lload_n rfl rfl rfl ?_
              refine q_iload_n rfl rfl rfl ?_
              refine q_lushr rfl rfl (q_tnl (z := 524800) rfl ?_)
              refine q_lconst rfl rfl ?_
              refine q_land rfl rfl (q_tnl (z := 0) rfl ?_)
              refine q_lconst rfl rfl ?_
              refine q_lcmp rfl rfl (q_tn (z := 0) rfl ?_)
              refine q_ifeq rfl rfl (fun c653 => ?_) (fun c653 => absurd (by decide) c653)
              refine q_iconst rfl rfl ?_
              refine q_iret rfl rfl rfl ?_
              refine ⟨_, rfl, ?_⟩
              refine q_ifeq rfl rfl (fun c654 => ?_) (fun c654 => absurd (by decide) c654)
              refine q_icc4 (z := 4) rfl rfl rfl rfl rfl ?_
              refine q_goto rfl ?_
              refine q_iload rfl rfl rfl ?_
              refine q_aload_n rfl rfl rfl ?_
              refine q_alen rfl rfl (by decide) rfl rfl (q_tn (z := 5) rfl ?_)
              refine q_icge rfl rfl (fun c655 => absurd c655 (by decide)) (fun c655 => ?_)
              refine q_iload_n rfl rfl rfl ?_
              refine q_iload rfl rfl rfl ?_
              refine q_iushr rfl rfl (q_tn (z := 1) rfl ?_)
              refine q_iconst rfl rfl ?_
              refine q_iand rfl rfl (q_tn (z := 1) rfl ?_)
              refine q_ifeq rfl rfl (fun c656 => absurd c656 (by decide)) (fun c656 => ?_)
              refine q_aload_n rfl rfl rfl ?_
              refine q_iload rfl rfl rfl ?_
              refine q_lald rfl rfl (by decide) rfl (by decide) (q_tnl (z := 1074791425) rfl ?_)
              refine q_iload_n rfl rfl rfl ?_
              refine q_nS2 rfl rfl (Or.inr rfl) rfl rfl ⟨rfl, rfl⟩ rfl ?_
              change PQ _ _ _ mm_X11_says 0 [.long 1074791425, pm_un, .int 11] [] _ _ 0 0 _
              refine q_lload_n rfl rfl rfl ?_
              refine q_iload_n rfl rfl rfl ?_
              refine q_lushr rfl rfl (q_tnl (z := 524800) rfl ?_)
              refine q_lconst rfl rfl ?_
              refine q_land rfl rfl (q_tnl (z := 0) rfl ?_)
              refine q_lconst rfl rfl ?_
              refine q_lcmp rfl rfl (q_tn (z := 0) rfl ?_)
              refine q_ifeq rfl rfl (fun c657 => ?_) (fun c657 => absurd (by decide) c657)
              refine q_iconst rfl rfl ?_
              refine q_iret rfl rfl rfl ?_
              refine ⟨_, rfl, ?_⟩
              refine q_ifeq rfl rfl (fun c658 => ?_) (fun c658 => absurd (by decide) c658)
              refine q_icc4 (z := 5) rfl rfl rfl rfl rfl ?_
              refine q_goto rfl ?_
              refine q_iload rfl rfl rfl ?_
              refine q_aload_n rfl rfl rfl ?_
              refine q_alen rfl rfl (by decide) rfl rfl (q_tn (z := 5) rfl ?_)
              refine q_icge rfl rfl (fun c659 => ?_) (fun c659 => absurd (by decide) c659)
              refine q_iload_n rfl rfl rfl ?_
              refine q_iload_n rfl rfl rfl ?_
              refine q_nS1 rfl rfl (Or.inl rfl) rfl rfl ⟨rfl, rfl⟩ rfl ?_
              change PQ _ _ _ mm_J6_bitCount_0f7a4 0 [.int 31] [] _ _ 0 0 _
              refine q_iload_n rfl rfl rfl ?_
              refine q_iload_n rfl rfl rfl ?_
              refine q_iconst rfl rfl ?_
              refine q_iushr rfl rfl (q_tn (z := 15) rfl ?_)
              refine q_ldcw rfl rfl ?_
              refine q_iand rfl rfl (q_tn (z := 5) rfl ?_)
              refine q_isub rfl rfl (q_tn (z := 26) rfl ?_)
              refine q_ist0n rfl rfl rfl ?_
              refine q_iload_n rfl rfl rfl ?_
              refine q_ldcw rfl rfl ?_
              refine q_iand rfl rfl (q_tn (z := 18) rfl ?_)
              refine q_iload_n rfl rfl rfl ?_
              refine q_iconst rfl rfl ?_
              refine q_iushr rfl rfl (q_tn (z := 6) rfl ?_)
              refine q_ldcw rfl rfl ?_
              refine q_iand rfl rfl (q_tn (z := 2) rfl ?_)
              refine q_iadd rfl rfl (q_tn (z := 20) rfl ?_)
              refine q_ist0n rfl rfl rfl ?_
              refine q_iload_n rfl rfl rfl ?_
              refine q_iload_n rfl rfl rfl ?_
              refine q_iconst rfl rfl ?_
              refine q_iushr rfl rfl (q_tn (z := 1) rfl ?_)
              refine q_iadd rfl rfl (q_tn (z := 21) rfl ?_)
              refine q_ldcw rfl rfl ?_
              refine q_iand rfl rfl (q_tn (z := 5) rfl ?_)
              refine q_ist0n rfl rfl rfl ?_
              refine q_iload_n rfl rfl rfl ?_
              refine q_iload_n rfl rfl rfl ?_
              refine q_bipush rfl rfl ?_
              refine q_iushr rfl rfl (q_tn (z := 0) rfl ?_)
              refine q_iadd rfl rfl (q_tn (z := 5) rfl ?_)
              refine q_ist0n rfl rfl rfl ?_
              refine q_iload_n rfl rfl rfl ?_
              refine q_iload_n rfl rfl rfl ?_
              refine q_bipush rfl rfl ?_
              refine q_iushr rfl rfl (q_tn (z := 0) rfl ?_)
              refine q_iadd rfl rfl (q_tn (z := 5) rfl ?_)
              refine q_ist0n rfl rfl rfl ?_
              refine q_iload_n rfl rfl rfl ?_
              refine q_bipush rfl rfl ?_
              refine q_iand rfl rfl (q_tn (z := 5) rfl ?_)
              refine q_iret rfl rfl trivial ?_
              refine ⟨_, rfl, ?_⟩
              refine q_iload_n rfl rfl rfl ?_
              refine q_isub rfl rfl (q_tn (z := 5) rfl ?_)
              refine q_mmax (z := 5) rfl om_gp rfl rfl rfl ?_
              refine q_iret rfl rfl trivial ?_
              refine ⟨_, rfl, ?_⟩
              refine q_ist6 rfl rfl rfl rfl ?_
              refine q_aload_n rfl rfl rfl ?_
              refine q_getf rfl rfl (by decide) (FW_42 S hW) rfl ?_
              refine q_iload rfl rfl rfl ?_
              refine q_nS2 rfl rfl (Or.inr rfl) rfl rfl ⟨rfl, rfl⟩ rfl ?_
              change PQ _ _ _ mm_X11_says 0 [.long 0, pm_un, .int 11] [] _ _ 0 0 _
              refine q_lload_n rfl rfl rfl ?_
              refine q_iload_n rfl rfl rfl ?_
              refine q_lushr rfl rfl (q_tnl (z := 0) rfl ?_)
              refine q_lconst rfl rfl ?_
              refine q_land rfl rfl (q_tnl (z := 0) rfl ?_)
              refine q_lconst rfl rfl ?_
              refine q_lcmp rfl rfl (q_tn (z := 0) rfl ?_)
              refine q_ifeq rfl rfl (fun c660 => ?_) (fun c660 => absurd (by decide) c660)
              refine q_iconst rfl rfl ?_
              refine q_iret rfl rfl rfl ?_
              refine ⟨_, rfl, ?_⟩
              refine q_ifne rfl rfl (fun c661 => ?_) (fun c661 => absurd (by decide) c661)
              refine q_iload rfl rfl rfl ?_
              refine q_iload rfl rfl rfl ?_
              refine q_icge rfl rfl (fun c662 => ?_) (fun c662 => absurd (by decide) c662)
              refine q_icc5 (z := 12) rfl rfl rfl rfl rfl ?_
              refine q_goto rfl ?_
              refine q_iload rfl rfl rfl ?_
              refine q_bipush rfl rfl ?_
              refine q_icge rfl rfl (fun c663 => absurd c663 (by decide)) (fun c663 => ?_)
              refine q_aload_n rfl rfl rfl ?_
              refine q_iload_n rfl rfl rfl ?_
              refine q_iload rfl rfl rfl ?_
              refine q_nS3 rfl rfl (Or.inl rfl) rfl rfl ⟨rfl, rfl⟩ rfl ?_
              change PQ _ _ _ mm_X3_greaterPart 0 [.ref 45, .int 31, .int 12, pm_un, pm_un] [] _ _ 0 0 _
              refine q_iconst rfl rfl ?_
              refine q_ist3n rfl rfl rfl rfl ?_
              refine q_iconst rfl rfl ?_
              refine q_ist4 rfl rfl rfl rfl ?_
              refine q_iload rfl rfl rfl ?_
              refine q_aload_n rfl rfl rfl ?_
              refine q_alen rfl rfl (by decide) rfl rfl (q_tn (z := 5) rfl ?_)
              refine q_icge rfl rfl (fun c664 => absurd c664 (by decide)) (fun c664 => ?_)
              refine q_iload_n rfl rfl rfl ?_
              refine q_iload rfl rfl rfl ?_
              refine q_iushr rfl rfl (q_tn (z := 31) rfl ?_)
              refine q_iconst rfl rfl ?_
              refine q_iand rfl rfl (q_tn (z := 1) rfl ?_)
              refine q_ifeq rfl rfl (fun c665 => absurd c665 (by decide)) (fun c665 => ?_)
              refine q_aload_n rfl rfl rfl ?_
              refine q_iload rfl rfl rfl ?_
              refine q_lald rfl rfl (by decide) rfl (by decide) (q_tnl (z := 1074791425) rfl ?_)
              refine q_iload_n rfl rfl rfl ?_
              refine q_nS2 rfl rfl (Or.inr rfl) rfl rfl ⟨rfl, rfl⟩ rfl ?_
              change PQ _ _ _ mm_X11_says 0 [.long 1074791425, pm_un, .int 12] [] _ _ 0 0 _
              refine q_lload_n rfl rfl rfl ?_
              refine q_iload_n rfl rfl rfl ?_
              refine q_lushr rfl rfl (q_tnl (z := 262400) rfl ?_)
              refine q_lconst rfl rfl ?_
              refine q_land rfl rfl (q_tnl (z := 0) rfl ?_)
              refine q_lconst rfl rfl ?_
              refine q_lcmp rfl rfl (q_tn (z := 0) rfl ?_)
              refine q_ifeq rfl rfl (fun c666 => ?_) (fun c666 => absurd (by decide) c666)
              refine q_iconst rfl rfl ?_
              refine q_iret rfl rfl rfl ?_
              refine ⟨_, rfl, ?_⟩
              refine q_ifeq rfl rfl (fun c667 => ?_) (fun c667 => absurd (by decide) c667)
              refine q_icc4 (z := 1) rfl rfl rfl rfl rfl ?_
              refine q_goto rfl ?_
              refine q_iload rfl rfl rfl ?_
              refine q_aload_n rfl rfl rfl ?_
              refine q_alen rfl rfl (by decide) rfl rfl (q_tn (z := 5) rfl ?_)
              refine q_icge rfl rfl (fun c668 => absurd c668 (by decide)) (fun c668 => ?_)
              refine q_iload_n rfl rfl rfl ?_
              refine q_iload rfl rfl rfl ?_
              refine q_iushr rfl rfl (q_tn (z := 15) rfl ?_)
              refine q_iconst rfl rfl ?_
              refine q_iand rfl rfl (q_tn (z := 1) rfl ?_)
              refine q_ifeq rfl rfl (fun c669 => absurd c669 (by decide)) (fun c669 => ?_)
              refine q_aload_n rfl rfl rfl ?_
              refine q_iload rfl rfl rfl ?_
              refine q_lald rfl rfl (by decide) rfl (by decide) (q_tnl (z := 1074791425) rfl ?_)
              refine q_iload_n rfl rfl rfl ?_
              refine q_nS2 rfl rfl (Or.inr rfl) rfl rfl ⟨rfl, rfl⟩ rfl ?_
              change PQ _ _ _ mm_X11_says 0 [.long 1074791425, pm_un, .int 12] [] _ _ 0 0 _
              refine q_lload_n rfl rfl rfl ?_
              refine q_iload_n rfl rfl rfl ?_
              refine q_lushr rfl rfl (q_tnl (z := 262400) rfl ?_)
              refine q_lconst rfl rfl ?_
              refine q_land rfl rfl (q_tnl (z := 0) rfl ?_)
              refine q_lconst rfl rfl ?_
              refine q_lcmp rfl rfl (q_tn (z := 0) rfl ?_)
              refine q_ifeq rfl rfl (fun c670 => ?_) (fun c670 => absurd (by decide) c670)
              refine q_iconst rfl rfl ?_
              refine q_iret rfl rfl rfl ?_
              refine ⟨_, rfl, ?_⟩
              refine q_ifeq rfl rfl (fun c671 => ?_) (fun c671 => absurd (by decide) c671)
              refine q_icc4 (z := 2) rfl rfl rfl rfl rfl ?_
              refine q_goto rfl ?_
              refine q_iload rfl rfl rfl ?_
              refine q_aload_n rfl rfl rfl ?_
              refine q_alen rfl rfl (by decide) rfl rfl (q_tn (z := 5) rfl ?_)
              refine q_icge rfl rfl (fun c672 => absurd c672 (by decide)) (fun c672 => ?_)
              refine q_iload_n rfl rfl rfl ?_
              refine q_iload rfl rfl rfl ?_
              refine q_iushr rfl rfl (q_tn (z := 7) rfl ?_)
              refine q_iconst rfl rfl ?_
              refine q_iand rfl rfl (q_tn (z := 1) rfl ?_)
              refine q_ifeq rfl rfl (fun c673 => absurd c673 (by decide)) (fun c673 => ?_)
              refine q_aload_n rfl rfl rfl ?_
              refine q_iload rfl rfl rfl ?_
              refine q_lald rfl rfl (by decide) rfl (by decide) (q_tnl (z := 1074791425) rfl ?_)
              refine q_iload_n rfl rfl rfl ?_
              refine q_nS2 rfl rfl (Or.inr rfl) rfl rfl ⟨rfl, rfl⟩ rfl ?_
              change PQ _ _ _ mm_X11_says 0 [.long 1074791425, pm_un, .int 12] [] _ _ 0 0 _
              refine q_lload_n rfl rfl rfl ?_
              refine q_iload_n rfl rfl rfl ?_
              refine q_lushr rfl rfl (q_tnl (z := 262400) rfl ?_)
              refine q_lconst rfl rfl ?_
              refine q_land rfl rfl (q_tnl (z := 0) rfl ?_)
              refine q_lconst rfl rfl ?_
              refine q_lcmp rfl rfl (q_tn (z := 0) rfl ?_)
              refine q_ifeq rfl rfl (fun c674 => ?_) (fun c674 => absurd (by decide) c674)
              refine q_iconst rfl rfl ?_
              refine q_iret rfl rfl rfl ?_
              refine ⟨_, rfl, ?_⟩
              refine q_ifeq rfl rfl (fun c675 => ?_) (fun c675 => absurd (by decide) c675)
              refine q_icc4 (z := 3) rfl rfl rfl rfl rfl ?_
              refine q_goto rfl ?_
              refine q_iload rfl rfl rfl ?_
              refine q_aload_n rfl rfl rfl ?_
              refine q_alen rfl rfl (by decide) rfl rfl (q_tn (z := 5) rfl ?_)
              refine q_icge rfl rfl (fun c676 => absurd c676 (by decide)) (fun c676 => ?_)
              refine q_iload_n rfl rfl rfl ?_
              refine q_iload rfl rfl rfl ?_
              refine q_iushr rfl rfl (q_tn (z := 3) rfl ?_)
              refine q_iconst rfl rfl ?_
              refine q_iand rfl rfl (q_tn (z := 1) rfl ?_)
              refine q_ifeq rfl rfl (fun c677 => absurd c677 (by decide)) (fun c677 => ?_)
              refine q_aload_n rfl rfl rfl ?_
              refine q_iload rfl rfl rfl ?_
              refine q_lald rfl rfl (by decide) rfl (by decide) (q_tnl (z := 1074791425) rfl ?_)
              refine q_iload_n rfl rfl rfl ?_
              refine q_nS2 rfl rfl (Or.inr rfl) rfl rfl ⟨rfl, rfl⟩ rfl ?_
              change PQ _ _ _ mm_X11_says 0 [.long 1074791425, pm_un, .int 12] [] _ _ 0 0 _
              refine q_lload_n rfl rfl rfl ?_
              refine q_iload_n rfl rfl rfl ?_
              refine q_lushr rfl rfl (q_tnl (z := 262400) rfl ?_)
              refine q_lconst rfl rfl ?_
              refine q_land rfl rfl (q_tnl (z := 0) rfl ?_)
              refine q_lconst rfl rfl ?_
              refine q_lcmp rfl rfl (q_tn (z := 0) rfl ?_)
              refine q_ifeq rfl rfl (fun c678 => ?_) (fun c678 => absurd (by decide) c678)
              refine q_iconst rfl rfl ?_
              refine q_iret rfl rfl rfl ?_
              refine ⟨_, rfl, ?_⟩
              refine q_ifeq rfl rfl (fun c679 => ?_) (fun c679 => absurd (by decide) c679)
              refine q_icc4 (z := 4) rfl rfl rfl rfl rfl ?_
              refine q_goto rfl ?_
              refine q_iload rfl rfl rfl ?_
              refine q_aload_n rfl rfl rfl ?_
              refine q_alen rfl rfl (by decide) rfl rfl (q_tn (z := 5) rfl ?_)
              refine q_icge rfl rfl (fun c680 => absurd c680 (by decide)) (fun c680 => ?_)
              refine q_iload_n rfl rfl rfl ?_
              refine q_iload rfl rfl rfl ?_
              refine q_iushr rfl rfl (q_tn (z := 1) rfl ?_)
              refine q_iconst rfl rfl ?_
              refine q_iand rfl rfl (q_tn (z := 1) rfl ?_)
              refine q_ifeq rfl rfl (fun c681 => absurd c681 (by decide)) (fun c681 => ?_)
              refine q_aload_n rfl rfl rfl ?_
              refine q_iload rfl rfl rfl ?_
              refine q_lald rfl rfl (by decide) rfl (by decide) (q_tnl (z := 1074791425) rfl ?_)
              refine q_iload_n rfl rfl rfl ?_
              refine q_nS2 rfl rfl (Or.inr rfl) rfl rfl ⟨rfl, rfl⟩ rfl ?_
              change PQ _ _ _ mm_X11_says 0 [.long 1074791425, pm_un, .int 12] [] _ _ 0 0 _
              refine q_lload_n rfl rfl rfl ?_
              refine q_iload_n rfl rfl rfl ?_
              refine q_lushr rfl rfl (q_tnl (z := 262400) rfl ?_)
              refine q_lconst rfl rfl ?_
              refine q_land rfl rfl (q_tnl (z := 0) rfl ?_)
              refine q_lconst rfl rfl ?_
              refine q_lcmp rfl rfl (q_tn (z := 0) rfl ?_)
              refine q_ifeq rfl rfl (fun c682 => ?_) (fun c682 => absurd (by decide) c682)
              refine q_iconst rfl rfl ?_
              refine q_iret rfl rfl rfl ?_
              refine ⟨_, rfl, ?_⟩
              refine q_ifeq rfl rfl (fun c683 => ?_) (fun c683 => absurd (by decide) c683)
              refine q_icc4 (z := 5) rfl rfl rfl rfl rfl ?_
              refine q_goto rfl ?_
              refine q_iload rfl rfl rfl ?_
              refine q_aload_n rfl rfl rfl ?_
              refine q_alen rfl rfl (by decide) rfl rfl (q_tn (z := 5) rfl ?_)
              refine q_icge rfl rfl (fun c684 => ?_) (fun c684 => absurd (by decide) c684)
              refine q_iload_n rfl rfl rfl ?_
              refine q_iload_n rfl rfl rfl ?_
              refine q_nS1 rfl rfl (Or.inl rfl) rfl rfl ⟨rfl, rfl⟩ rfl ?_
              change PQ _ _ _ mm_J6_bitCount_0f7a4 0 [.int 31] [] _ _ 0 0 _
              refine q_iload_n rfl rfl rfl ?_
              refine q_iload_n rfl rfl rfl ?_
              refine q_iconst rfl rfl ?_
              refine q_iushr rfl rfl (q_tn (z := 15) rfl ?_)
              refine q_ldcw rfl rfl ?_
              refine q_iand rfl rfl (q_tn (z := 5) rfl ?_)
              refine q_isub rfl rfl (q_tn (z := 26) rfl ?_)
              refine q_ist0n rfl rfl rfl ?_
              refine q_iload_n rfl rfl rfl ?_
              refine q_ldcw rfl rfl ?_
              refine q_iand rfl rfl (q_tn (z := 18) rfl ?_)
              refine q_iload_n rfl rfl rfl ?_
              refine q_iconst rfl rfl ?_
              refine q_iushr rfl rfl (q_tn (z := 6) rfl ?_)
              refine q_ldcw rfl rfl ?_
              refine q_iand rfl rfl (q_tn (z := 2) rfl ?_)
              refine q_iadd rfl rfl (q_tn (z := 20) rfl ?_)
              refine q_ist0n rfl rfl rfl ?_
              refine q_iload_n rfl rfl rfl ?_
              refine q_iload_n rfl rfl rfl ?_
              refine q_iconst rfl rfl ?_
              refine q_iushr rfl rfl (q_tn (z := 1) rfl ?_)
              refine q_iadd rfl rfl (q_tn (z := 21) rfl ?_)
              refine q_ldcw rfl rfl ?_
              refine q_iand rfl rfl (q_tn (z := 5) rfl ?_)
              refine q_ist0n rfl rfl rfl ?_
              refine q_iload_n rfl rfl rfl ?_
              refine q_iload_n rfl rfl rfl ?_
              refine q_bipush rfl rfl ?_
              refine q_iushr rfl rfl (q_tn (z := 0) rfl ?_)
              refine q_iadd rfl rfl (q_tn (z := 5) rfl ?_)
              refine q_ist0n rfl rfl rfl ?_
              refine q_iload_n rfl rfl rfl ?_
              refine q_iload_n rfl rfl rfl ?_
              refine q_bipush rfl rfl ?_
              refine q_iushr rfl rfl (q_tn (z := 0) rfl ?_)
              refine q_iadd rfl rfl (q_tn (z := 5) rfl ?_)
              refine q_ist0n rfl rfl rfl ?_
              refine q_iload_n rfl rfl rfl ?_
              refine q_bipush rfl rfl ?_
              refine q_iand rfl rfl (q_tn (z := 5) rfl ?_)
              refine q_iret rfl rfl trivial ?_
              refine ⟨_, rfl, ?_⟩
              refine q_iload_n rfl rfl rfl ?_
              refine q_isub rfl rfl (q_tn (z := 5) rfl ?_)
              refine q_mmax (z := 5) rfl om_gp rfl rfl rfl ?_
              refine q_iret rfl rfl trivial ?_
              refine ⟨_, rfl, ?_⟩
              refine q_ist6 rfl rfl rfl rfl ?_
              refine q_aload_n rfl rfl rfl ?_
              refine q_getf rfl rfl (by decide) (FW_42 S hW) rfl ?_
              refine q_iload rfl rfl rfl ?_
              refine q_nS2 rfl rfl (Or.inr rfl) rfl rfl ⟨rfl, rfl⟩ rfl ?_
              change PQ _ _ _ mm_X11_says 0 [.long 0, pm_un, .int 12] [] _ _ 0 0 _
              refine q_lload_n rfl rfl rfl ?_
              refine q_iload_n rfl rfl rfl ?_
              refine q_lushr rfl rfl (q_tnl (z := 0) rfl ?_)
              refine q_lconst rfl rfl ?_
              refine q_land rfl rfl (q_tnl (z := 0) rfl ?_)
              refine q_lconst rfl rfl ?_
              refine q_lcmp rfl rfl (q_tn (z := 0) rfl ?_)
              refine q_ifeq rfl rfl (fun c685 => ?_) (fun c685 => absurd (by decide) c685)
              refine q_iconst rfl rfl ?_
              refine q_iret rfl rfl rfl ?_
              refine ⟨_, rfl, ?_⟩
              refine q_ifne rfl rfl (fun c686 => ?_) (fun c686 => absurd (by decide) c686)
              refine q_iload rfl rfl rfl ?_
              refine q_iload rfl rfl rfl ?_
              refine q_icge rfl rfl (fun c687 => ?_) (fun c687 => absurd (by decide) c687)
              refine q_icc5 (z := 13) rfl rfl rfl rfl rfl ?_
              refine q_goto rfl ?_
              refine q_iload rfl rfl rfl ?_
              refine q_bipush rfl rfl ?_
              refine q_icge rfl rfl (fun c688 => absurd c688 (by decide)) (fun c688 => ?_)
              refine q_aload_n rfl rfl rfl ?_
              refine q_iload_n rfl rfl rfl ?_
              refine q_iload rfl rfl rfl ?_
              refine q_nS3 rfl rfl (Or.inl rfl) rfl rfl ⟨rfl, rfl⟩ rfl ?_
              change PQ _ _ _ mm_X3_greaterPart 0 [.ref 45, .int 31, .int 13, pm_un, pm_un] [] _ _ 0 0 _
              refine q_iconst rfl rfl ?_
              refine q_ist3n rfl rfl rfl rfl ?_
              refine q_iconst rfl rfl ?_
              refine q_ist4 rfl rfl rfl rfl ?_
              refine q_iload rfl rfl rfl ?_
              refine q_aload_n rfl rfl rfl ?_
              refine q_alen rfl rfl (by decide) rfl rfl (q_tn (z := 5) rfl ?_)
              refine q_icge rfl rfl (fun c689 => absurd c689 (by decide)) (fun c689 => ?_)
              refine q_iload_n rfl rfl rfl ?_
              refine q_iload rfl rfl rfl ?_
              refine q_iushr rfl rfl (q_tn (z := 31) rfl ?_)
              refine q_iconst rfl rfl ?_
              refine q_iand rfl rfl (q_tn (z := 1) rfl ?_)
              refine q_ifeq rfl rfl (fun c690 => absurd c690 (by decide)) (fun c690 => ?_)
              refine q_aload_n rfl rfl rfl ?_
              refine q_iload rfl rfl rfl ?_
              refine q_lald rfl rfl (by decide) rfl (by decide) (q_tnl (z := 1074791425) rfl ?_)
              refine q_iload_n rfl rfl rfl ?_
              refine q_nS2 rfl rfl (Or.inr rfl) rfl rfl ⟨rfl, rfl⟩ rfl ?_
              change PQ _ _ _ mm_X11_says 0 [.long 1074791425, pm_un, .int 13] [] _ _ 0 0 _
              refine q_lload_n rfl rfl rfl ?_
              refine q_iload_n rfl rfl rfl ?_
              refine q_lushr rfl rfl (q_tnl (z := 131200) rfl ?_)
              refine q_lconst rfl rfl ?_
              refine q_land rfl rfl (q_tnl (z := 0) rfl ?_)
              refine q_lconst rfl rfl ?_
              refine q_lcmp rfl rfl (q_tn (z := 0) rfl ?_)
              refine q_ifeq rfl rfl (fun c691 => ?_) (fun c691 => absurd (by decide) c691)
              refine q_iconst rfl rfl ?_
              refine q_iret rfl rfl rfl ?_
              refine ⟨_, rfl, ?_⟩
              refine q_ifeq rfl rfl (fun c692 => ?_) (fun c692 => absurd (by decide) c692)
              refine q_icc4 (z := 1) rfl rfl rfl rfl rfl ?_
              refine q_goto rfl ?_
              refine q_iload rfl rfl rfl ?_
              refine q_aload_n rfl rfl rfl ?_
              refine q_alen rfl rfl (by decide) rfl rfl (q_tn (z := 5) rfl ?_)
              refine q_icge rfl rfl (fun c693 => absurd c693 (by decide)) (fun c693 => ?_)
              refine q_iload_n rfl rfl rfl ?_
              refine q_iload rfl rfl rfl ?_
              refine q_iushr rfl rfl (q_tn (z := 15) rfl ?_)
              refine q_iconst rfl rfl ?_
              refine q_iand rfl rfl (q_tn (z := 1) rfl ?_)
              refine q_ifeq rfl rfl (fun c694 => absurd c694 (by decide)) (fun c694 => ?_)
              refine q_aload_n rfl rfl rfl ?_
              refine q_iload rfl rfl rfl ?_
              refine q_lald rfl rfl (by decide) rfl (by decide) (q_tnl (z := 1074791425) rfl ?_)
              refine q_iload_n rfl rfl rfl ?_
              refine q_nS2 rfl rfl (Or.inr rfl) rfl rfl ⟨rfl, rfl⟩ rfl ?_
              change PQ _ _ _ mm_X11_says 0 [.long 1074791425, pm_un, .int 13] [] _ _ 0 0 _
              refine q_lload_n rfl rfl rfl ?_
              refine q_iload_n rfl rfl rfl ?_
              refine q_lushr rfl rfl (q_tnl (z := 131200) rfl ?_)
              refine q_lconst rfl rfl ?_
              refine q_land rfl rfl (q_tnl (z := 0) rfl ?_)
              refine q_lconst rfl rfl ?_
              refine q_lcmp rfl rfl (q_tn (z := 0) rfl ?_)
              refine q_ifeq rfl rfl (fun c695 => ?_) (fun c695 => absurd (by decide) c695)
              refine q_iconst rfl rfl ?_
              refine q_iret rfl rfl rfl ?_
              refine ⟨_, rfl, ?_⟩
              refine q_ifeq rfl rfl (fun c696 => ?_) (fun c696 => absurd (by decide) c696)
              refine q_icc4 (z := 2) rfl rfl rfl rfl rfl ?_
              refine q_goto rfl ?_
              refine q_iload rfl rfl rfl ?_
              refine q_aload_n rfl rfl rfl ?_
              refine q_alen rfl rfl (by decide) rfl rfl (q_tn (z := 5) rfl ?_)
              refine q_icge rfl rfl (fun c697 => absurd c697 (by decide)) (fun c697 => ?_)
              refine q_iload_n rfl rfl rfl ?_
              refine q_iload rfl rfl rfl ?_
              refine q_iushr rfl rfl (q_tn (z := 7) rfl ?_)
              refine q_iconst rfl rfl ?_
              refine q_iand rfl rfl (q_tn (z := 1) rfl ?_)
              refine q_ifeq rfl rfl (fun c698 => absurd c698 (by decide)) (fun c698 => ?_)
              refine q_aload_n rfl rfl rfl ?_
              refine q_iload rfl rfl rfl ?_
              refine q_lald rfl rfl (by decide) rfl (by decide) (q_tnl (z := 1074791425) rfl ?_)
              refine q_iload_n rfl rfl rfl ?_
              refine q_nS2 rfl rfl (Or.inr rfl) rfl rfl ⟨rfl, rfl⟩ rfl ?_
              change PQ _ _ _ mm_X11_says 0 [.long 1074791425, pm_un, .int 13] [] _ _ 0 0 _
              refine q_lload_n rfl rfl rfl ?_
              refine q_iload_n rfl rfl rfl ?_
              refine q_lushr rfl rfl (q_tnl (z := 131200) rfl ?_)
              refine q_lconst rfl rfl ?_
              refine q_land rfl rfl (q_tnl (z := 0) rfl ?_)
              refine q_lconst rfl rfl ?_
              refine q_lcmp rfl rfl (q_tn (z := 0) rfl ?_)
              refine q_ifeq rfl rfl (fun c699 => ?_) (fun c699 => absurd (by decide) c699)
              refine q_iconst rfl rfl ?_
              refine q_iret rfl rfl rfl ?_
              refine ⟨_, rfl, ?_⟩
              refine q_ifeq rfl rfl (fun c700 => ?_) (fun c700 => absurd (by decide) c700)
              refine q_icc4 (z := 3) rfl rfl rfl rfl rfl ?_
              refine q_goto rfl ?_
              refine q_iload rfl rfl rfl ?_
              refine q_aload_n rfl rfl rfl ?_
              refine q_alen rfl rfl (by decide) rfl rfl (q_tn (z := 5) rfl ?_)
              refine q_icge rfl rfl (fun c701 => absurd c701 (by decide)) (fun c701 => ?_)
              refine q_iload_n rfl rfl rfl ?_
              refine q_iload rfl rfl rfl ?_
              refine q_iushr rfl rfl (q_tn (z := 3) rfl ?_)
              refine q_iconst rfl rfl ?_
              refine q_iand rfl rfl (q_tn (z := 1) rfl ?_)
              refine q_ifeq rfl rfl (fun c702 => absurd c702 (by decide)) (fun c702 => ?_)
              refine q_aload_n rfl rfl rfl ?_
              refine q_iload rfl rfl rfl ?_
              refine q_lald rfl rfl (by decide) rfl (by decide) (q_tnl (z := 1074791425) rfl ?_)
              refine q_iload_n rfl rfl rfl ?_
              refine q_nS2 rfl rfl (Or.inr rfl) rfl rfl ⟨rfl, rfl⟩ rfl ?_
              change PQ _ _ _ mm_X11_says 0 [.long 1074791425, pm_un, .int 13] [] _ _ 0 0 _
              refine q_lload_n rfl rfl rfl ?_
              refine q_iload_n rfl rfl rfl ?_
              refine q_lushr rfl rfl (q_tnl (z := 131200) rfl ?_)
              refine q_lconst rfl rfl ?_
              refine q_land rfl rfl (q_tnl (z := 0) rfl ?_)
              refine q_lconst rfl rfl ?_
              refine q_lcmp rfl rfl (q_tn (z := 0) rfl ?_)
              refine q_ifeq rfl rfl (fun c703 => ?_) (fun c703 => absurd (by decide) c703)
              refine q_iconst rfl rfl ?_
              refine q_iret rfl rfl rfl ?_
              refine ⟨_, rfl, ?_⟩
              refine q_ifeq rfl rfl (fun c704 => ?_) (fun c704 => absurd (by decide) c704)
              refine q_icc4 (z := 4) rfl rfl rfl rfl rfl ?_
              refine q_goto rfl ?_
              refine q_iload rfl rfl rfl ?_
              refine q_aload_n rfl rfl rfl ?_
              refine q_alen rfl rfl (by decide) rfl rfl (q_tn (z := 5) rfl ?_)
              refine q_icge rfl rfl (fun c705 => absurd c705 (by decide)) (fun c705 => ?_)
              refine q_iload_n rfl rfl rfl ?_
              refine q_iload rfl rfl rfl ?_
              refine q_iushr rfl rfl (q_tn (z := 1) rfl ?_)
              refine q_iconst rfl rfl ?_
              refine q_iand rfl rfl (q_tn (z := 1) rfl ?_)
              refine q_ifeq rfl rfl (fun c706 => absurd c706 (by decide)) (fun c706 => ?_)
              refine q_aload_n rfl rfl rfl ?_
              refine q_iload rfl rfl rfl ?_
              refine q_lald rfl rfl (by decide) rfl (by decide) (q_tnl (z := 1074791425) rfl ?_)
              refine q_iload_n rfl rfl rfl ?_
              refine q_nS2 rfl rfl (Or.inr rfl) rfl rfl ⟨rfl, rfl⟩ rfl ?_
              change PQ _ _ _ mm_X11_says 0 [.long 1074791425, pm_un, .int 13] [] _ _ 0 0 _
              refine q_lload_n rfl rfl rfl ?_
              refine q_iload_n rfl rfl rfl ?_
              refine q_lushr rfl rfl (q_tnl (z := 131200) rfl ?_)
              refine q_lconst rfl rfl ?_
              refine q_land rfl rfl (q_tnl (z := 0) rfl ?_)
              refine q_lconst rfl rfl ?_
              refine q_lcmp rfl rfl (q_tn (z := 0) rfl ?_)
              refine q_ifeq rfl rfl (fun c707 => ?_) (fun c707 => absurd (by decide) c707)
              refine q_iconst rfl rfl ?_
              refine q_iret rfl rfl rfl ?_
              refine ⟨_, rfl, ?_⟩
              refine q_ifeq rfl rfl (fun c708 => ?_) (fun c708 => absurd (by decide) c708)
              refine q_icc4 (z := 5) rfl rfl rfl rfl rfl ?_
              refine q_goto rfl ?_
              refine q_iload rfl rfl rfl ?_
              refine q_aload_n rfl rfl rfl ?_
              refine q_alen rfl rfl (by decide) rfl rfl (q_tn (z := 5) rfl ?_)
              refine q_icge rfl rfl (fun c709 => ?_) (fun c709 => absurd (by decide) c709)
              refine q_iload_n rfl rfl rfl ?_
              refine q_iload_n rfl rfl rfl ?_
              refine q_nS1 rfl rfl (Or.inl rfl) rfl rfl ⟨rfl, rfl⟩ rfl ?_
              change PQ _ _ _ mm_J6_bitCount_0f7a4 0 [.int 31] [] _ _ 0 0 _
              refine q_iload_n rfl rfl rfl ?_
              refine q_iload_n rfl rfl rfl ?_
              refine q_iconst rfl rfl ?_
              refine q_iushr rfl rfl (q_tn (z := 15) rfl ?_)
              refine q_ldcw rfl rfl ?_
              refine q_iand rfl rfl (q_tn (z := 5) rfl ?_)
              refine q_isub rfl rfl (q_tn (z := 26) rfl ?_)
              refine q_ist0n rfl rfl rfl ?_
              refine q_iload_n rfl rfl rfl ?_
              refine q_ldcw rfl rfl ?_
              refine q_iand rfl rfl (q_tn (z := 18) rfl ?_)
              refine q_iload_n rfl rfl rfl ?_
              refine q_iconst rfl rfl ?_
              refine q_iushr rfl rfl (q_tn (z := 6) rfl ?_)
              refine q_ldcw rfl rfl ?_
              refine q_iand rfl rfl (q_tn (z := 2) rfl ?_)
              refine q_iadd rfl rfl (q_tn (z := 20) rfl ?_)
              refine q_ist0n rfl rfl rfl ?_
              refine q_iload_n rfl rfl rfl ?_
              refine q_iload_n rfl rfl rfl ?_
              refine q_iconst rfl rfl ?_
              refine q_iushr rfl rfl (q_tn (z := 1) rfl ?_)
              refine q_iadd rfl rfl (q_tn (z := 21) rfl ?_)
              refine q_ldcw rfl rfl ?_
              refine q_iand rfl rfl (q_tn (z := 5) rfl ?_)
              refine q_ist0n rfl rfl rfl ?_
              refine q_iload_n rfl rfl rfl ?_
              refine q_iload_n rfl rfl rfl ?_
              refine q_bipush rfl rfl ?_
              refine q_iushr rfl rfl (q_tn (z := 0) rfl ?_)
              refine q_iadd rfl rfl (q_tn (z := 5) rfl ?_)
              refine q_ist0n rfl rfl rfl ?_
              refine q_iload_n rfl rfl rfl ?_
              refine q_iload_n rfl rfl rfl ?_
              refine q_bipush rfl rfl ?_
              refine q_iushr rfl rfl (q_tn (z := 0) rfl ?_)
              refine q_iadd rfl rfl (q_tn (z := 5) rfl ?_)
              refine q_ist0n rfl rfl rfl ?_
              refine q_iload_n rfl rfl rfl ?_
              refine q_bipush rfl rfl ?_
              refine q_iand rfl rfl (q_tn (z := 5) rfl ?_)
              refine q_iret rfl rfl trivial ?_
              refine ⟨_, rfl, ?_⟩
              refine q_iload_n rfl rfl rfl ?_
              refine q_isub rfl rfl (q_tn (z := 5) rfl ?_)
              refine q_mmax (z := 5) rfl om_gp rfl rfl rfl ?_
              refine q_iret rfl rfl trivial ?_
              refine ⟨_, rfl, ?_⟩
              refine q_ist6 rfl rfl rfl rfl ?_
              refine q_aload_n rfl rfl rfl ?_
              refine q_getf rfl rfl (by decide) (FW_42 S hW) rfl ?_
              refine q_iload rfl rfl rfl ?_
              refine q_nS2 rfl rfl (Or.inr rfl) rfl rfl ⟨rfl, rfl⟩ rfl ?_
              change PQ _ _ _ mm_X11_says 0 [.long 0, pm_un, .int 13] [] _ _ 0 0 _
              refine q_lload_n rfl rfl rfl ?_
              refine q_iload_n rfl rfl rfl ?_
              refine q_lushr rfl rfl (q_tnl (z := 0) rfl ?_)
              refine q_lconst rfl rfl ?_
              refine q_land rfl rfl (q_tnl (z := 0) rfl ?_)
              refine q_lconst rfl rfl ?_
              refine q_lcmp rfl rfl (q_tn (z := 0) rfl ?_)
              refine q_ifeq rfl rfl (fun c710 => ?_) (fun c710 => absurd (by decide) c710)
              refine q_iconst rfl rfl ?_
              refine q_iret rfl rfl rfl ?_
              refine ⟨_, rfl, ?_⟩
              refine q_ifne rfl rfl (fun c711 => ?_) (fun c711 => absurd (by decide) c711)
              refine q_iload rfl rfl rfl ?_
              refine q_iload rfl rfl rfl ?_
              refine q_icge rfl rfl (fun c712 => ?_) (fun c712 => absurd (by decide) c712)
              refine q_icc5 (z := 14) rfl rfl rfl rfl rfl ?_
              refine q_goto rfl ?_
              refine q_iload rfl rfl rfl ?_
              refine q_bipush rfl rfl ?_
              refine q_icge rfl rfl (fun c713 => absurd c713 (by decide)) (fun c713 => ?_)
              refine q_aload_n rfl rfl rfl ?_
              refine q_iload_n rfl rfl rfl ?_
              refine q_iload rfl rfl rfl ?_
              refine q_nS3 rfl rfl (Or.inl rfl) rfl rfl ⟨rfl, rfl⟩ rfl ?_
              change PQ _ _ _ mm_X3_greaterPart 0 [.ref 45, .int 31, .int 14, pm_un, pm_un] [] _ _ 0 0 _
              refine q_iconst rfl rfl ?_
              refine q_ist3n rfl rfl rfl rfl ?_
              refine q_iconst rfl rfl ?_
              refine q_ist4 rfl rfl rfl rfl ?_
              refine q_iload rfl rfl rfl ?_
              refine q_aload_n rfl rfl rfl ?_
              refine q_alen rfl rfl (by decide) rfl rfl (q_tn (z := 5) rfl ?_)
              refine q_icge rfl rfl (fun c714 => absurd c714 (by decide)) (fun c714 => ?_)
              refine q_iload_n rfl rfl rfl ?_
              refine q_iload rfl rfl rfl ?_
              refine q_iushr rfl rfl (q_tn (z := 31) rfl ?_)
              refine q_iconst rfl rfl ?_
              refine q_iand rfl rfl (q_tn (z := 1) rfl ?_)
              refine q_ifeq rfl rfl (fun c715 => absurd c715 (by decide)) (fun c715 => ?_)
              refine q_aload_n rfl rfl rfl ?_
              refine q_iload rfl rfl rfl ?_
              refine q_lald rfl rfl (by decide) rfl (by decide) (q_tnl (z := 1074791425) rfl ?_)
              refine q_iload_n rfl rfl rfl ?_
              refine q_nS2 rfl rfl (Or.inr rfl) rfl rfl ⟨rfl, rfl⟩ rfl ?_
              change PQ _ _ _ mm_X11_says 0 [.long 1074791425, pm_un, .int 14] [] _ _ 0 0 _
              refine q_lload_n rfl rfl rfl ?_
              refine q_iload_n rfl rfl rfl ?_
              refine q_lushr rfl rfl (q_tnl (z := 65600) rfl ?_)
              refine q_lconst rfl rfl ?_
              refine q_land rfl rfl (q_tnl (z := 0) rfl ?_)
              refine q_lconst rfl rfl ?_
              refine q_lcmp rfl rfl (q_tn (z := 0) rfl ?_)
              refine q_ifeq rfl rfl (fun c716 => ?_) (fun c716 => absurd (by decide) c716)
              refine q_iconst rfl rfl ?_
              refine q_iret rfl rfl rfl ?_
              refine ⟨_, rfl, ?_⟩
              refine q_ifeq rfl rfl (fun c717 => ?_) (fun c717 => absurd (by decide) c717)
              refine q_icc4 (z := 1) rfl rfl rfl rfl rfl ?_
              refine q_goto rfl ?_
              refine q_iload rfl rfl rfl ?_
              refine q_aload_n rfl rfl rfl ?_
              refine q_alen rfl rfl (by decide) rfl rfl (q_tn (z := 5) rfl ?_)
              refine q_icge rfl rfl (fun c718 => absurd c718 (by decide)) (fun c718 => ?_)
              refine q_iload_n rfl rfl rfl ?_
              refine q_iload rfl rfl rfl ?_
              refine q_iushr rfl rfl (q_tn (z := 15) rfl ?_)
              refine q_iconst rfl rfl ?_
              refine q_iand rfl rfl (q_tn (z := 1) rfl ?_)
              refine q_ifeq rfl rfl (fun c719 => absurd c719 (by decide)) (fun c719 => ?_)
              refine q_aload_n rfl rfl rfl ?_
              refine q_iload rfl rfl rfl ?_
              refine q_lald rfl rfl (by decide) rfl (by decide) (q_tnl (z := 1074791425) rfl ?_)
              refine q_iload_n rfl rfl rfl ?_
              refine q_nS2 rfl rfl (Or.inr rfl) rfl rfl ⟨rfl, rfl⟩ rfl ?_
              change PQ _ _ _ mm_X11_says 0 [.long 1074791425, pm_un, .int 14] [] _ _ 0 0 _
              refine q_lload_n rfl rfl rfl ?_
              refine q_iload_n rfl rfl rfl ?_
              refine q_lushr rfl rfl (q_tnl (z := 65600) rfl ?_)
              refine q_lconst rfl rfl ?_
              refine q_land rfl rfl (q_tnl (z := 0) rfl ?_)
              refine q_lconst rfl rfl ?_
              refine q_lcmp rfl rfl (q_tn (z := 0) rfl ?_)
              refine q_ifeq rfl rfl (fun c720 => ?_) (fun c720 => absurd (by decide) c720)
              refine q_iconst rfl rfl ?_
              refine q_iret rfl rfl rfl ?_
              refine ⟨_, rfl, ?_⟩
              refine q_ifeq rfl rfl (fun c721 => ?_) (fun c721 => absurd (by decide) c721)
              refine q_icc4 (z := 2) rfl rfl rfl rfl rfl ?_
              refine q_goto rfl ?_
              refine q_iload rfl rfl rfl ?_
              refine q_aload_n rfl rfl rfl ?_
              refine q_alen rfl rfl (by decide) rfl rfl (q_tn (z := 5) rfl ?_)
              refine q_icge rfl rfl (fun c722 => absurd c722 (by decide)) (fun c722 => ?_)
              refine q_iload_n rfl rfl rfl ?_
              refine q_iload rfl rfl rfl ?_
              refine q_iushr rfl rfl (q_tn (z := 7) rfl ?_)
              refine q_iconst rfl rfl ?_
              refine q_iand rfl rfl (q_tn (z := 1) rfl ?_)
              refine q_ifeq rfl rfl (fun c723 => absurd c723 (by decide)) (fun c723 => ?_)
              refine q_aload_n rfl rfl rfl ?_
              refine q_iload rfl rfl rfl ?_
              refine q_lald rfl rfl (by decide) rfl (by decide) (q_tnl (z := 1074791425) rfl ?_)
              refine q_iload_n rfl rfl rfl ?_
              refine q_nS2 rfl rfl (Or.inr rfl) rfl rfl ⟨rfl, rfl⟩ rfl ?_
              change PQ _ _ _ mm_X11_says 0 [.long 1074791425, pm_un, .int 14] [] _ _ 0 0 _
              refine q_lload_n rfl rfl rfl ?_
              refine q_iload_n rfl rfl rfl ?_
              as_aux_lemma =>
                refine q_lushr rfl rfl (q_tnl (z := 65600) rfl ?_)
                refine q_lconst rfl rfl ?_
                refine q_land rfl rfl (q_tnl (z := 0) rfl ?_)
                refine q_lconst rfl rfl ?_
                refine q_lcmp rfl rfl (q_tn (z := 0) rfl ?_)
                refine q_ifeq rfl rfl (fun c724 => ?_) (fun c724 => absurd (by decide) c724)
                refine q_iconst rfl rfl ?_
                refine q_iret rfl rfl rfl ?_
                refine ⟨_, rfl, ?_⟩
                refine q_ifeq rfl rfl (fun c725 => ?_) (fun c725 => absurd (by decide) c725)
                refine q_icc4 (z := 3) rfl rfl rfl rfl rfl ?_
                refine q_goto rfl ?_
                refine q_iload rfl rfl rfl ?_
                refine q_aload_n rfl rfl rfl ?_
                refine q_alen rfl rfl (by decide) rfl rfl (q_tn (z := 5) rfl ?_)
                refine q_icge rfl rfl (fun c726 => absurd c726 (by decide)) (fun c726 => ?_)
                refine q_iload_n rfl rfl rfl ?_
                refine q_iload rfl rfl rfl ?_
                refine q_iushr rfl rfl (q_tn (z := 3) rfl ?_)
                refine q_iconst rfl rfl ?_
                refine q_iand rfl rfl (q_tn (z := 1) rfl ?_)
                refine q_ifeq rfl rfl (fun c727 => absurd c727 (by decide)) (fun c727 => ?_)
                refine q_aload_n rfl rfl rfl ?_
                refine q_iload rfl rfl rfl ?_
                refine q_lald rfl rfl (by decide) rfl (by decide) (q_tnl (z := 1074791425) rfl ?_)
                refine q_iload_n rfl rfl rfl ?_
                refine q_nS2 rfl rfl (Or.inr rfl) rfl rfl ⟨rfl, rfl⟩ rfl ?_
                change PQ _ _ _ mm_X11_says 0 [.long 1074791425, pm_un, .int 14] [] _ _ 0 0 _
                refine q_lload_n rfl rfl rfl ?_
                refine q_iload_n rfl rfl rfl ?_
                refine q_lushr rfl rfl (q_tnl (z := 65600) rfl ?_)
                refine q_lconst rfl rfl ?_
                refine q_land rfl rfl (q_tnl (z := 0) rfl ?_)
                refine q_lconst rfl rfl ?_
                refine q_lcmp rfl rfl (q_tn (z := 0) rfl ?_)
                refine q_ifeq rfl rfl (fun c728 => ?_) (fun c728 => absurd (by decide) c728)
                refine q_iconst rfl rfl ?_
                refine q_iret rfl rfl rfl ?_
                refine ⟨_, rfl, ?_⟩
                refine q_ifeq rfl rfl (fun c729 => ?_) (fun c729 => absurd (by decide) c729)
                refine q_icc4 (z := 4) rfl rfl rfl rfl rfl ?_
                refine q_goto rfl ?_
                refine q_iload rfl rfl rfl ?_
                refine q_aload_n rfl rfl rfl ?_
                refine q_alen rfl rfl (by decide) rfl rfl (q_tn (z := 5) rfl ?_)
                refine q_icge rfl rfl (fun c730 => absurd c730 (by decide)) (fun c730 => ?_)
                refine q_iload_n rfl rfl rfl ?_
                refine q_iload rfl rfl rfl ?_
                refine q_iushr rfl rfl (q_tn (z := 1) rfl ?_)
                refine q_iconst rfl rfl ?_
                refine q_iand rfl rfl (q_tn (z := 1) rfl ?_)
                refine q_ifeq rfl rfl (fun c731 => absurd c731 (by decide)) (fun c731 => ?_)
                refine q_aload_n rfl rfl rfl ?_
                refine q_iload rfl rfl rfl ?_
                refine q_lald rfl rfl (by decide) rfl (by decide) (q_tnl (z := 1074791425) rfl ?_)
                refine q_iload_n rfl rfl rfl ?_
                refine q_nS2 rfl rfl (Or.inr rfl) rfl rfl ⟨rfl, rfl⟩ rfl ?_
                change PQ _ _ _ mm_X11_says 0 [.long 1074791425, pm_un, .int 14] [] _ _ 0 0 _
                refine q_lload_n rfl rfl rfl ?_
                refine q_iload_n rfl rfl rfl ?_
                refine q_lushr rfl rfl (q_tnl (z := 65600) rfl ?_)
                refine q_lconst rfl rfl ?_
                refine q_land rfl rfl (q_tnl (z := 0) rfl ?_)
                refine q_lconst rfl rfl ?_
                refine q_lcmp rfl rfl (q_tn (z := 0) rfl ?_)
                refine q_ifeq rfl rfl (fun c732 => ?_) (fun c732 => absurd (by decide) c732)
                refine q_iconst rfl rfl ?_
                refine q_iret rfl rfl rfl ?_
                refine ⟨_, rfl, ?_⟩
                refine q_ifeq rfl rfl (fun c733 => ?_) (fun c733 => absurd (by decide) c733)
                refine q_icc4 (z := 5) rfl rfl rfl rfl rfl ?_
                refine q_goto rfl ?_
                refine q_iload rfl rfl rfl ?_
                refine q_aload_n rfl rfl rfl ?_
                refine q_alen rfl rfl (by decide) rfl rfl (q_tn (z := 5) rfl ?_)
                refine q_icge rfl rfl (fun c734 => ?_) (fun c734 => absurd (by decide) c734)
                refine q_iload_n rfl rfl rfl ?_
                refine q_iload_n rfl rfl rfl ?_
                refine q_nS1 rfl rfl (Or.inl rfl) rfl rfl ⟨rfl, rfl⟩ rfl ?_
                change PQ _ _ _ mm_J6_bitCount_0f7a4 0 [.int 31] [] _ _ 0 0 _
                refine q_iload_n rfl rfl rfl ?_
                refine q_iload_n rfl rfl rfl ?_
                refine q_iconst rfl rfl ?_
                refine q_iushr rfl rfl (q_tn (z := 15) rfl ?_)
                refine q_ldcw rfl rfl ?_
                refine q_iand rfl rfl (q_tn (z := 5) rfl ?_)
                refine q_isub rfl rfl (q_tn (z := 26) rfl ?_)
                refine q_ist0n rfl rfl rfl ?_
                refine q_iload_n rfl rfl rfl ?_
                refine q_ldcw rfl rfl ?_
                refine q_iand rfl rfl (q_tn (z := 18) rfl ?_)
                refine q_iload_n rfl rfl rfl ?_
                refine q_iconst rfl rfl ?_
                refine q_iushr rfl rfl (q_tn (z := 6) rfl ?_)
                refine q_ldcw rfl rfl ?_
                refine q_iand rfl rfl (q_tn (z := 2) rfl ?_)
                refine q_iadd rfl rfl (q_tn (z := 20) rfl ?_)
                refine q_ist0n rfl rfl rfl ?_
                refine q_iload_n rfl rfl rfl ?_
                refine q_iload_n rfl rfl rfl ?_
                refine q_iconst rfl rfl ?_
                refine q_iushr rfl rfl (q_tn (z := 1) rfl ?_)
                refine q_iadd rfl rfl (q_tn (z := 21) rfl ?_)
                refine q_ldcw rfl rfl ?_
                refine q_iand rfl rfl (q_tn (z := 5) rfl ?_)
                refine q_ist0n rfl rfl rfl ?_
                refine q_iload_n rfl rfl rfl ?_
                refine q_iload_n rfl rfl rfl ?_
                refine q_bipush rfl rfl ?_
                refine q_iushr rfl rfl (q_tn (z := 0) rfl ?_)
                refine q_iadd rfl rfl (q_tn (z := 5) rfl ?_)
                refine q_ist0n rfl rfl rfl ?_
                refine q_iload_n rfl rfl rfl ?_
                refine q_iload_n rfl rfl rfl ?_
                refine q_bipush rfl rfl ?_
                refine q_iushr rfl rfl (q_tn (z := 0) rfl ?_)
                refine q_iadd rfl rfl (q_tn (z := 5) rfl ?_)
                refine q_ist0n rfl rfl rfl ?_
                refine q_iload_n rfl rfl rfl ?_
                refine q_bipush rfl rfl ?_
                refine q_iand rfl rfl (q_tn (z := 5) rfl ?_)
                refine q_iret rfl rfl trivial ?_
                refine ⟨_, rfl, ?_⟩
                refine q_iload_n rfl rfl rfl ?_
                refine q_isub rfl rfl (q_tn (z := 5) rfl ?_)
                refine q_mmax (z := 5) rfl om_gp rfl rfl rfl ?_
                refine q_iret rfl rfl trivial ?_
                refine ⟨_, rfl, ?_⟩
                refine q_ist6 rfl rfl rfl rfl ?_
                refine q_aload_n rfl rfl rfl ?_
                refine q_getf rfl rfl (by decide) (FW_42 S hW) rfl ?_
                refine q_iload rfl rfl rfl ?_
                refine q_nS2 rfl rfl (Or.inr rfl) rfl rfl ⟨rfl, rfl⟩ rfl ?_
                change PQ _ _ _ mm_X11_says 0 [.long 0, pm_un, .int 14] [] _ _ 0 0 _
                refine q_lload_n rfl rfl rfl ?_
                refine q_iload_n rfl rfl rfl ?_
                refine q_lushr rfl rfl (q_tnl (z := 0) rfl ?_)
                refine q_lconst rfl rfl ?_
                refine q_land rfl rfl (q_tnl (z := 0) rfl ?_)
                refine q_lconst rfl rfl ?_
                refine q_lcmp rfl rfl (q_tn (z := 0) rfl ?_)
                refine q_ifeq rfl rfl (fun c735 => ?_) (fun c735 => absurd (by decide) c735)
                refine q_iconst rfl rfl ?_
                refine q_iret rfl rfl rfl ?_
                refine ⟨_, rfl, ?_⟩
                refine q_ifne rfl rfl (fun c736 => ?_) (fun c736 => absurd (by decide) c736)
                refine q_iload rfl rfl rfl ?_
                refine q_iload rfl rfl rfl ?_
                refine q_icge rfl rfl (fun c737 => ?_) (fun c737 => absurd (by decide) c737)
                refine q_icc5 (z := 15) rfl rfl rfl rfl rfl ?_
                refine q_goto rfl ?_
                refine q_iload rfl rfl rfl ?_
                refine q_bipush rfl rfl ?_
                refine q_icge rfl rfl (fun c738 => absurd c738 (by decide)) (fun c738 => ?_)
                refine q_aload_n rfl rfl rfl ?_
                refine q_iload_n rfl rfl rfl ?_
                refine q_iload rfl rfl rfl ?_
                refine q_nS3 rfl rfl (Or.inl rfl) rfl rfl ⟨rfl, rfl⟩ rfl ?_
                change PQ _ _ _ mm_X3_greaterPart 0 [.ref 45, .int 31, .int 15, pm_un, pm_un] [] _ _ 0 0 _
                refine q_iconst rfl rfl ?_
                refine q_ist3n rfl rfl rfl rfl ?_
                refine q_iconst rfl rfl ?_
                refine q_ist4 rfl rfl rfl rfl ?_
                refine q_iload rfl rfl rfl ?_
                refine q_aload_n rfl rfl rfl ?_
                refine q_alen rfl rfl (by decide) rfl rfl (q_tn (z := 5) rfl ?_)
                refine q_icge rfl rfl (fun c739 => absurd c739 (by decide)) (fun c739 => ?_)
                refine q_iload_n rfl rfl rfl ?_
                refine q_iload rfl rfl rfl ?_
                refine q_iushr rfl rfl (q_tn (z := 31) rfl ?_)
                refine q_iconst rfl rfl ?_
                refine q_iand rfl rfl (q_tn (z := 1) rfl ?_)
                refine q_ifeq rfl rfl (fun c740 => absurd c740 (by decide)) (fun c740 => ?_)
                refine q_aload_n rfl rfl rfl ?_
                refine q_iload rfl rfl rfl ?_
                refine q_lald rfl rfl (by decide) rfl (by decide) (q_tnl (z := 1074791425) rfl ?_)
                refine q_iload_n rfl rfl rfl ?_
                refine q_nS2 rfl rfl (Or.inr rfl) rfl rfl ⟨rfl, rfl⟩ rfl ?_
                change PQ _ _ _ mm_X11_says 0 [.long 1074791425, pm_un, .int 15] [] _ _ 0 0 _
                refine q_lload_n rfl rfl rfl ?_
                refine q_iload_n rfl rfl rfl ?_
                refine q_lushr rfl rfl (q_tnl (z := 32800) rfl ?_)
                refine q_lconst rfl rfl ?_
                refine q_land rfl rfl (q_tnl (z := 0) rfl ?_)
                refine q_lconst rfl rfl ?_
                refine q_lcmp rfl rfl (q_tn (z := 0) rfl ?_)
                refine q_ifeq rfl rfl (fun c741 => ?_) (fun c741 => absurd (by decide) c741)
                refine q_iconst rfl rfl ?_
                refine q_iret rfl rfl rfl ?_
                refine ⟨_, rfl, ?_⟩
                refine q_ifeq rfl rfl (fun c742 => ?_) (fun c742 => absurd (by decide) c742)
                refine q_icc4 (z := 1) rfl rfl rfl rfl rfl ?_
                refine q_goto rfl ?_
                refine q_iload rfl rfl rfl ?_
                refine q_aload_n rfl rfl rfl ?_
                refine q_alen rfl rfl (by decide) rfl rfl (q_tn (z := 5) rfl ?_)
                refine q_icge rfl rfl (fun c743 => absurd c743 (by decide)) (fun c743 => ?_)
                refine q_iload_n rfl rfl rfl ?_
                refine q_iload rfl rfl rfl ?_
                refine q_iushr rfl rfl (q_tn (z := 15) rfl ?_)
                refine q_iconst rfl rfl ?_
                refine q_iand rfl rfl (q_tn (z := 1) rfl ?_)
                refine q_ifeq rfl rfl (fun c744 => absurd c744 (by decide)) (fun c744 => ?_)
                refine q_aload_n rfl rfl rfl ?_
                refine q_iload rfl rfl rfl ?_
                refine q_lald rfl rfl (by decide) rfl (by decide) (q_tnl (z := 1074791425) rfl ?_)
                refine q_iload_n rfl rfl rfl ?_
                refine q_nS2 rfl rfl (Or.inr rfl) rfl rfl ⟨rfl, rfl⟩ rfl ?_
                change PQ _ _ _ mm_X11_says 0 [.long 1074791425, pm_un, .int 15] [] _ _ 0 0 _
                refine q_lload_n rfl rfl rfl ?_
                refine q_iload_n rfl rfl rfl ?_
                refine q_lushr rfl rfl (q_tnl (z := 32800) rfl ?_)
                refine q_lconst rfl rfl ?_
                refine q_land rfl rfl (q_tnl (z := 0) rfl ?_)
                refine q_lconst rfl rfl ?_
                refine q_lcmp rfl rfl (q_tn (z := 0) rfl ?_)
                refine q_ifeq rfl rfl (fun c745 => ?_) (fun c745 => absurd (by decide) c745)
                refine q_iconst rfl rfl ?_
                refine q_iret rfl rfl rfl ?_
                refine ⟨_, rfl, ?_⟩
                refine q_ifeq rfl rfl (fun c746 => ?_) (fun c746 => absurd (by decide) c746)
                refine q_icc4 (z := 2) rfl rfl rfl rfl rfl ?_
                refine q_goto rfl ?_
                refine q_iload rfl rfl rfl ?_
                refine q_aload_n rfl rfl rfl ?_
                refine q_alen rfl rfl (by decide) rfl rfl (q_tn (z := 5) rfl ?_)
                refine q_icge rfl rfl (fun c747 => absurd c747 (by decide)) (fun c747 => ?_)
                refine q_iload_n rfl rfl rfl ?_
                refine q_iload rfl rfl rfl ?_
                refine q_iushr rfl rfl (q_tn (z := 7) rfl ?_)
                refine q_iconst rfl rfl ?_
                refine q_iand rfl rfl (q_tn (z := 1) rfl ?_)
                refine q_ifeq rfl rfl (fun c748 => absurd c748 (by decide)) (fun c748 => ?_)
                refine q_aload_n rfl rfl rfl ?_
                refine q_iload rfl rfl rfl ?_
                refine q_lald rfl rfl (by decide) rfl (by decide) (q_tnl (z := 1074791425) rfl ?_)
                refine q_iload_n rfl rfl rfl ?_
                refine q_nS2 rfl rfl (Or.inr rfl) rfl rfl ⟨rfl, rfl⟩ rfl ?_
                change PQ _ _ _ mm_X11_says 0 [.long 1074791425, pm_un, .int 15] [] _ _ 0 0 _
                refine q_lload_n rfl rfl rfl ?_
                refine q_iload_n rfl rfl rfl ?_
                refine q_lushr rfl rfl (q_tnl (z := 32800) rfl ?_)
                refine q_lconst rfl rfl ?_
                refine q_land rfl rfl (q_tnl (z := 0) rfl ?_)
                refine q_lconst rfl rfl ?_
                refine q_lcmp rfl rfl (q_tn (z := 0) rfl ?_)
                refine q_ifeq rfl rfl (fun c749 => ?_) (fun c749 => absurd (by decide) c749)
                refine q_iconst rfl rfl ?_
                refine q_iret rfl rfl rfl ?_
                refine ⟨_, rfl, ?_⟩
                refine q_ifeq rfl rfl (fun c750 => ?_) (fun c750 => absurd (by decide) c750)
                refine q_icc4 (z := 3) rfl rfl rfl rfl rfl ?_
                refine q_goto rfl ?_
                refine q_iload rfl rfl rfl ?_
                refine q_aload_n rfl rfl rfl ?_
                refine q_alen rfl rfl (by decide) rfl rfl (q_tn (z := 5) rfl ?_)
                refine q_icge rfl rfl (fun c751 => absurd c751 (by decide)) (fun c751 => ?_)
                refine q_iload_n rfl rfl rfl ?_
                refine q_iload rfl rfl rfl ?_
                refine q_iushr rfl rfl (q_tn (z := 3) rfl ?_)
                refine q_iconst rfl rfl ?_
                refine q_iand rfl rfl (q_tn (z := 1) rfl ?_)
                refine q_ifeq rfl rfl (fun c752 => absurd c752 (by decide)) (fun c752 => ?_)
                refine q_aload_n rfl rfl rfl ?_
                refine q_iload rfl rfl rfl ?_
                refine q_lald rfl rfl (by decide) rfl (by decide) (q_tnl (z := 1074791425) rfl ?_)
                refine q_iload_n rfl rfl rfl ?_
                refine q_nS2 rfl rfl (Or.inr rfl) rfl rfl ⟨rfl, rfl⟩ rfl ?_
                change PQ _ _ _ mm_X11_says 0 [.long 1074791425, pm_un, .int 15] [] _ _ 0 0 _
                refine q_lload_n rfl rfl rfl ?_
                refine q_iload_n rfl rfl rfl ?_
                refine q_lushr rfl rfl (q_tnl (z := 32800) rfl ?_)
                refine q_lconst rfl rfl ?_
                refine q_land rfl rfl (q_tnl (z := 0) rfl ?_)
                refine q_lconst rfl rfl ?_
                refine q_lcmp rfl rfl (q_tn (z := 0) rfl ?_)
                refine q_ifeq rfl rfl (fun c753 => ?_) (fun c753 => absurd (by decide) c753)
                refine q_iconst rfl rfl ?_
                refine q_iret rfl rfl rfl ?_
                refine ⟨_, rfl, ?_⟩
                refine q_ifeq rfl rfl (fun c754 => ?_) (fun c754 => absurd (by decide) c754)
                refine q_icc4 (z := 4) rfl rfl rfl rfl rfl ?_
                refine q_goto rfl ?_
                refine q_iload rfl rfl rfl ?_
                refine q_aload_n rfl rfl rfl ?_
                refine q_alen rfl rfl (by decide) rfl rfl (q_tn (z := 5) rfl ?_)
                refine q_icge rfl rfl (fun c755 => absurd c755 (by decide)) (fun c755 => ?_)
                refine q_iload_n rfl rfl rfl ?_
                refine q_iload rfl rfl rfl ?_
                refine q_iushr rfl rfl (q_tn (z := 1) rfl ?_)
                refine q_iconst rfl rfl ?_
                refine q_iand rfl rfl (q_tn (z := 1) rfl ?_)
                refine q_ifeq rfl rfl (fun c756 => absurd c756 (by decide)) (fun c756 => ?_)
                refine q_aload_n rfl rfl rfl ?_
                refine q_iload rfl rfl rfl ?_
                refine q_lald rfl rfl (by decide) rfl (by decide) (q_tnl (z := 1074791425) rfl ?_)
                refine q_iload_n rfl rfl rfl ?_
                refine q_nS2 rfl rfl (Or.inr rfl) rfl rfl ⟨rfl, rfl⟩ rfl ?_
                change PQ _ _ _ mm_X11_says 0 [.long 1074791425, pm_un, .int 15] [] _ _ 0 0 _
                refine q_lload_n rfl rfl rfl ?_
                refine q_iload_n rfl rfl rfl ?_
                refine q_lushr rfl rfl (q_tnl (z := 32800) rfl ?_)
                refine q_lconst rfl rfl ?_
                refine q_land rfl rfl (q_tnl (z := 0) rfl ?_)
                refine q_lconst rfl rfl ?_
                refine q_lcmp rfl rfl (q_tn (z := 0) rfl ?_)
                refine q_ifeq rfl rfl (fun c757 => ?_) (fun c757 => absurd (by decide) c757)
                refine q_iconst rfl rfl ?_
                refine q_iret rfl rfl rfl ?_
                refine ⟨_, rfl, ?_⟩
                refine q_ifeq rfl rfl (fun c758 => ?_) (fun c758 => absurd (by decide) c758)
                refine q_icc4 (z := 5) rfl rfl rfl rfl rfl ?_
                refine q_goto rfl ?_
                refine q_iload rfl rfl rfl ?_
                refine q_aload_n rfl rfl rfl ?_
                refine q_alen rfl rfl (by decide) rfl rfl (q_tn (z := 5) rfl ?_)
                refine q_icge rfl rfl (fun c759 => ?_) (fun c759 => absurd (by decide) c759)
                refine q_iload_n rfl rfl rfl ?_
                refine q_iload_n rfl rfl rfl ?_
                refine q_nS1 rfl rfl (Or.inl rfl) rfl rfl ⟨rfl, rfl⟩ rfl ?_
                change PQ _ _ _ mm_J6_bitCount_0f7a4 0 [.int 31] [] _ _ 0 0 _
                refine q_iload_n rfl rfl rfl ?_
                refine q_iload_n rfl rfl rfl ?_
                refine q_iconst rfl rfl ?_
                refine q_iushr rfl rfl (q_tn (z := 15) rfl ?_)
                refine q_ldcw rfl rfl ?_
                refine q_iand rfl rfl (q_tn (z := 5) rfl ?_)
                refine q_isub rfl rfl (q_tn (z := 26) rfl ?_)
                refine q_ist0n rfl rfl rfl ?_
                refine q_iload_n rfl rfl rfl ?_
                refine q_ldcw rfl rfl ?_
                refine q_iand rfl rfl (q_tn (z := 18) rfl ?_)
                refine q_iload_n rfl rfl rfl ?_
                refine q_iconst rfl rfl ?_
                refine q_iushr rfl rfl (q_tn (z := 6) rfl ?_)
                refine q_ldcw rfl rfl ?_
                refine q_iand rfl rfl (q_tn (z := 2) rfl ?_)
                refine q_iadd rfl rfl (q_tn (z := 20) rfl ?_)
                refine q_ist0n rfl rfl rfl ?_
                refine q_iload_n rfl rfl rfl ?_
                refine q_iload_n rfl rfl rfl ?_
                refine q_iconst rfl rfl ?_
                refine q_iushr rfl rfl (q_tn (z := 1) rfl ?_)
                refine q_iadd rfl rfl (q_tn (z := 21) rfl ?_)
                refine q_ldcw rfl rfl ?_
                refine q_iand rfl rfl (q_tn (z := 5) rfl ?_)
                refine q_ist0n rfl rfl rfl ?_
                refine q_iload_n rfl rfl rfl ?_
                refine q_iload_n rfl rfl rfl ?_
                refine q_bipush rfl rfl ?_
                refine q_iushr rfl rfl (q_tn (z := 0) rfl ?_)
                refine q_iadd rfl rfl (q_tn (z := 5) rfl ?_)
                refine q_ist0n rfl rfl rfl ?_
                refine q_iload_n rfl rfl rfl ?_
                refine q_iload_n rfl rfl rfl ?_
                refine q_bipush rfl rfl ?_
                refine q_iushr rfl rfl (q_tn (z := 0) rfl ?_)
                refine q_iadd rfl rfl (q_tn (z := 5) rfl ?_)
                refine q_ist0n rfl rfl rfl ?_
                refine q_iload_n rfl rfl rfl ?_
                refine q_bipush rfl rfl ?_
                refine q_iand rfl rfl (q_tn (z := 5) rfl ?_)
                refine q_iret rfl rfl trivial ?_
                refine ⟨_, rfl, ?_⟩
                refine q_iload_n rfl rfl rfl ?_
                refine q_isub rfl rfl (q_tn (z := 5) rfl ?_)
                refine q_mmax (z := 5) rfl om_gp rfl rfl rfl ?_
                refine q_iret rfl rfl trivial ?_
                refine ⟨_, rfl, ?_⟩
                refine q_ist6 rfl rfl rfl rfl ?_
                refine q_aload_n rfl rfl rfl ?_
                refine q_getf rfl rfl (by decide) (FW_42 S hW) rfl ?_
                refine q_iload rfl rfl rfl ?_
                refine q_nS2 rfl rfl (Or.inr rfl) rfl rfl ⟨rfl, rfl⟩ rfl ?_
                change PQ _ _ _ mm_X11_says 0 [.long 0, pm_un, .int 15] [] _ _ 0 0 _
                refine q_lload_n rfl rfl rfl ?_
                refine q_iload_n rfl rfl rfl ?_
                refine q_lushr rfl rfl (q_tnl (z := 0) rfl ?_)
                refine q_lconst rfl rfl ?_
                refine q_land rfl rfl (q_tnl (z := 0) rfl ?_)
                refine q_lconst rfl rfl ?_
                refine q_lcmp rfl rfl (q_tn (z := 0) rfl ?_)
                refine q_ifeq rfl rfl (fun c760 => ?_) (fun c760 => absurd (by decide) c760)
                refine q_iconst rfl rfl ?_
                refine q_iret rfl rfl rfl ?_
                refine ⟨_, rfl, ?_⟩
                refine q_ifne rfl rfl (fun c761 => ?_) (fun c761 => absurd (by decide) c761)
                refine q_iload rfl rfl rfl ?_
                refine q_iload rfl rfl rfl ?_
                refine q_icge rfl rfl (fun c762 => ?_) (fun c762 => absurd (by decide) c762)
                refine q_icc5 (z := 16) rfl rfl rfl rfl rfl ?_
                refine q_goto rfl ?_
                refine q_iload rfl rfl rfl ?_
                refine q_bipush rfl rfl ?_
                refine q_icge rfl rfl (fun c763 => absurd c763 (by decide)) (fun c763 => ?_)
                refine q_aload_n rfl rfl rfl ?_
                refine q_iload_n rfl rfl rfl ?_
                refine q_iload rfl rfl rfl ?_
                refine q_nS3 rfl rfl (Or.inl rfl) rfl rfl ⟨rfl, rfl⟩ rfl ?_
                change PQ _ _ _ mm_X3_greaterPart 0 [.ref 45, .int 31, .int 16, pm_un, pm_un] [] _ _ 0 0 _
                refine q_iconst rfl rfl ?_
                refine q_ist3n rfl rfl rfl rfl ?_
                refine q_iconst rfl rfl ?_
                refine q_ist4 rfl rfl rfl rfl ?_
                refine q_iload rfl rfl rfl ?_
                refine q_aload_n rfl rfl rfl ?_
                refine q_alen rfl rfl (by decide) rfl rfl (q_tn (z := 5) rfl ?_)
                refine q_icge rfl rfl (fun c764 => absurd c764 (by decide)) (fun c764 => ?_)
                refine q_iload_n rfl rfl rfl ?_
                refine q_iload rfl rfl rfl ?_
                refine q_iushr rfl rfl (q_tn (z := 31) rfl ?_)
                refine q_iconst rfl rfl ?_
                refine q_iand rfl rfl (q_tn (z := 1) rfl ?_)
                refine q_ifeq rfl rfl (fun c765 => absurd c765 (by decide)) (fun c765 => ?_)
                refine q_aload_n rfl rfl rfl ?_
                refine q_iload rfl rfl rfl ?_
                refine q_lald rfl rfl (by decide) rfl (by decide) (q_tnl (z := 1074791425) rfl ?_)
                refine q_iload_n rfl rfl rfl ?_
                refine q_nS2 rfl rfl (Or.inr rfl) rfl rfl ⟨rfl, rfl⟩ rfl ?_
                change PQ _ _ _ mm_X11_says 0 [.long 1074791425, pm_un, .int 16] [] _ _ 0 0 _
                refine q_lload_n rfl rfl rfl ?_
                refine q_iload_n rfl rfl rfl ?_
                refine q_lushr rfl rfl (q_tnl (z := 16400) rfl ?_)
                refine q_lconst rfl rfl ?_
                refine q_land rfl rfl (q_tnl (z := 0) rfl ?_)
                refine q_lconst rfl rfl ?_
                refine q_lcmp rfl rfl (q_tn (z := 0) rfl ?_)
                refine q_ifeq rfl rfl (fun c766 => ?_) (fun c766 => absurd (by decide) c766)
                refine q_iconst rfl rfl ?_
                refine q_iret rfl rfl rfl ?_
                refine ⟨_, rfl, ?_⟩
                refine q_ifeq rfl rfl (fun c767 => ?_) (fun c767 => absurd (by decide) c767)
                refine q_icc4 (z := 1) rfl rfl rfl rfl rfl ?_
                refine q_goto rfl ?_
                refine q_iload rfl rfl rfl ?_
                refine q_aload_n rfl rfl rfl ?_
                refine q_alen rfl rfl (by decide) rfl rfl (q_tn (z := 5) rfl ?_)
                refine q_icge rfl rfl (fun c768 => absurd c768 (by decide)) (fun c768 => ?_)
                refine q_iload_n rfl rfl rfl ?_
                refine q_iload rfl rfl rfl ?_
                refine q_iushr rfl rfl (q_tn (z := 15) rfl ?_)
                refine q_iconst rfl rfl ?_
                refine q_iand rfl rfl (q_tn (z := 1) rfl ?_)
                refine q_ifeq rfl rfl (fun c769 => absurd c769 (by decide)) (fun c769 => ?_)
                refine q_aload_n rfl rfl rfl ?_
                refine q_iload rfl rfl rfl ?_
                refine q_lald rfl rfl (by decide) rfl (by decide) (q_tnl (z := 1074791425) rfl ?_)
                refine q_iload_n rfl rfl rfl ?_
                refine q_nS2 rfl rfl (Or.inr rfl) rfl rfl ⟨rfl, rfl⟩ rfl ?_
                change PQ _ _ _ mm_X11_says 0 [.long 1074791425, pm_un, .int 16] [] _ _ 0 0 _
                refine q_lload_n rfl rfl rfl ?_
                refine q_iload_n rfl rfl rfl ?_
                refine q_lushr rfl rfl (q_tnl (z := 16400) rfl ?_)
                refine q_lconst rfl rfl ?_
                refine q_land rfl rfl (q_tnl (z := 0) rfl ?_)
                refine q_lconst rfl rfl ?_
                refine q_lcmp rfl rfl (q_tn (z := 0) rfl ?_)
                refine q_ifeq rfl rfl (fun c770 => ?_) (fun c770 => absurd (by decide) c770)
                refine q_iconst rfl rfl ?_
                refine q_iret rfl rfl rfl ?_
                refine ⟨_, rfl, ?_⟩
                refine q_ifeq rfl rfl (fun c771 => ?_) (fun c771 => absurd (by decide) c771)
                refine q_icc4 (z := 2) rfl rfl rfl rfl rfl ?_
                refine q_goto rfl ?_
                refine q_iload rfl rfl rfl ?_
                refine q_aload_n rfl rfl rfl ?_
                refine q_alen rfl rfl (by decide) rfl rfl (q_tn (z := 5) rfl ?_)
                refine q_icge rfl rfl (fun c772 => absurd c772 (by decide)) (fun c772 => ?_)
                refine q_iload_n rfl rfl rfl ?_
                refine q_iload rfl rfl rfl ?_
                refine q_iushr rfl rfl (q_tn (z := 7) rfl ?_)
                refine q_iconst rfl rfl ?_
                refine q_iand rfl rfl (q_tn (z := 1) rfl ?_)
                refine q_ifeq rfl rfl (fun c773 => absurd c773 (by decide)) (fun c773 => ?_)
                refine q_aload_n rfl rfl rfl ?_
                refine q_iload rfl rfl rfl ?_
                refine q_lald rfl rfl (by decide) rfl (by decide) (q_tnl (z := 1074791425) rfl ?_)
                refine q_iload_n rfl rfl rfl ?_
                refine q_nS2 rfl rfl (Or.inr rfl) rfl rfl ⟨rfl, rfl⟩ rfl ?_
                change PQ _ _ _ mm_X11_says 0 [.long 1074791425, pm_un, .int 16] [] _ _ 0 0 _
                refine q_lload_n rfl rfl rfl ?_
                refine q_iload_n rfl rfl rfl ?_
                refine q_lushr rfl rfl (q_tnl (z := 16400) rfl ?_)
                refine q_lconst rfl rfl ?_
                refine q_land rfl rfl (q_tnl (z := 0) rfl ?_)
                refine q_lconst rfl rfl ?_
                refine q_lcmp rfl rfl (q_tn (z := 0) rfl ?_)
                refine q_ifeq rfl rfl (fun c774 => ?_) (fun c774 => absurd (by decide) c774)
                refine q_iconst rfl rfl ?_
                refine q_iret rfl rfl rfl ?_
                refine ⟨_, rfl, ?_⟩
                refine q_ifeq rfl rfl (fun c775 => ?_) (fun c775 => absurd (by decide) c775)
                refine q_icc4 (z := 3) rfl rfl rfl rfl rfl ?_
                refine q_goto rfl ?_
                refine q_iload rfl rfl rfl ?_
                refine q_aload_n rfl rfl rfl ?_
                refine q_alen rfl rfl (by decide) rfl rfl (q_tn (z := 5) rfl ?_)
                refine q_icge rfl rfl (fun c776 => absurd c776 (by decide)) (fun c776 => ?_)
                refine q_iload_n rfl rfl rfl ?_
                refine q_iload rfl rfl rfl ?_
                refine q_iushr rfl rfl (q_tn (z := 3) rfl ?_)
                refine q_iconst rfl rfl ?_
                refine q_iand rfl rfl (q_tn (z := 1) rfl ?_)
                refine q_ifeq rfl rfl (fun c777 => absurd c777 (by decide)) (fun c777 => ?_)
                refine q_aload_n rfl rfl rfl ?_
                refine q_iload rfl rfl rfl ?_
                refine q_lald rfl rfl (by decide) rfl (by decide) (q_tnl (z := 1074791425) rfl ?_)
                refine q_iload_n rfl rfl rfl ?_
                refine q_nS2 rfl rfl (Or.inr rfl) rfl rfl ⟨rfl, rfl⟩ rfl ?_
                change PQ _ _ _ mm_X11_says 0 [.long 1074791425, pm_un, .int 16] [] _ _ 0 0 _
                refine q_lload_n rfl rfl rfl ?_
                refine q_iload_n rfl rfl rfl ?_
                refine q_lushr rfl rfl (q_tnl (z := 16400) rfl ?_)
                refine q_lconst rfl rfl ?_
                refine q_land rfl rfl (q_tnl (z := 0) rfl ?_)
                refine q_lconst rfl rfl ?_
                refine q_lcmp rfl rfl (q_tn (z := 0) rfl ?_)
                refine q_ifeq rfl rfl (fun c778 => ?_) (fun c778 => absurd (by decide) c778)
                refine q_iconst rfl rfl ?_
                refine q_iret rfl rfl rfl ?_
                refine ⟨_, rfl, ?_⟩
                refine q_ifeq rfl rfl (fun c779 => ?_) (fun c779 => absurd (by decide) c779)
                refine q_icc4 (z := 4) rfl rfl rfl rfl rfl ?_
                refine q_goto rfl ?_
                refine q_iload rfl rfl rfl ?_
                refine q_aload_n rfl rfl rfl ?_
                refine q_alen rfl rfl (by decide) rfl rfl (q_tn (z := 5) rfl ?_)
                refine q_icge rfl rfl (fun c780 => absurd c780 (by decide)) (fun c780 => ?_)
                refine q_iload_n rfl rfl rfl ?_
                refine q_iload rfl rfl rfl ?_
                refine q_iushr rfl rfl (q_tn (z := 1) rfl ?_)
                refine q_iconst rfl rfl ?_
                refine q_iand rfl rfl (q_tn (z := 1) rfl ?_)
                refine q_ifeq rfl rfl (fun c781 => absurd c781 (by decide)) (fun c781 => ?_)
                refine q_aload_n rfl rfl rfl ?_
                refine q_iload rfl rfl rfl ?_
                refine q_lald rfl rfl (by decide) rfl (by decide) (q_tnl (z := 1074791425) rfl ?_)
                refine q_iload_n rfl rfl rfl ?_
                refine q_nS2 rfl rfl (Or.inr rfl) rfl rfl ⟨rfl, rfl⟩ rfl ?_
                change PQ _ _ _ mm_X11_says 0 [.long 1074791425, pm_un, .int 16] [] _ _ 0 0 _
                refine q_lload_n rfl rfl rfl ?_
                refine q_iload_n rfl rfl rfl ?_
                refine q_lushr rfl rfl (q_tnl (z := 16400) rfl ?_)
                refine q_lconst rfl rfl ?_
                refine q_land rfl rfl (q_tnl (z := 0) rfl ?_)
                refine q_lconst rfl rfl ?_
                refine q_lcmp rfl rfl (q_tn (z := 0) rfl ?_)
                refine q_ifeq rfl rfl (fun c782 => ?_) (fun c782 => absurd (by decide) c782)
                refine q_iconst rfl rfl ?_
                refine q_iret rfl rfl rfl ?_
                refine ⟨_, rfl, ?_⟩
                refine q_ifeq rfl rfl (fun c783 => ?_) (fun c783 => absurd (by decide) c783)
                refine q_icc4 (z := 5) rfl rfl rfl rfl rfl ?_
                refine q_goto rfl ?_
                refine q_iload rfl rfl rfl ?_
                refine q_aload_n rfl rfl rfl ?_
                refine q_alen rfl rfl (by decide) rfl rfl (q_tn (z := 5) rfl ?_)
                refine q_icge rfl rfl (fun c784 => ?_) (fun c784 => absurd (by decide) c784)
                refine q_iload_n rfl rfl rfl ?_
                refine q_iload_n rfl rfl rfl ?_
                refine q_nS1 rfl rfl (Or.inl rfl) rfl rfl ⟨rfl, rfl⟩ rfl ?_
                change PQ _ _ _ mm_J6_bitCount_0f7a4 0 [.int 31] [] _ _ 0 0 _
                refine q_iload_n rfl rfl rfl ?_
                refine q_iload_n rfl rfl rfl ?_
                refine q_iconst rfl rfl ?_
                refine q_iushr rfl rfl (q_tn (z := 15) rfl ?_)
                refine q_ldcw rfl rfl ?_
                refine q_iand rfl rfl (q_tn (z := 5) rfl ?_)
                refine q_isub rfl rfl (q_tn (z := 26) rfl ?_)
                refine q_ist0n rfl rfl rfl ?_
                refine q_iload_n rfl rfl rfl ?_
                refine q_ldcw rfl rfl ?_
                refine q_iand rfl rfl (q_tn (z := 18) rfl ?_)
                refine q_iload_n rfl rfl rfl ?_
                refine q_iconst rfl rfl ?_
                refine q_iushr rfl rfl (q_tn (z := 6) rfl ?_)
                refine q_ldcw rfl rfl ?_
                refine q_iand rfl rfl (q_tn (z := 2) rfl ?_)
                refine q_iadd rfl rfl (q_tn (z := 20) rfl ?_)
                refine q_ist0n rfl rfl rfl ?_
                refine q_iload_n rfl rfl rfl ?_
                refine q_iload_n rfl rfl rfl ?_
                refine q_iconst rfl rfl ?_
                refine q_iushr rfl rfl (q_tn (z := 1) rfl ?_)
                refine q_iadd rfl rfl (q_tn (z := 21) rfl ?_)
                refine q_ldcw rfl rfl ?_
                refine q_iand rfl rfl (q_tn (z := 5) rfl ?_)
                refine q_ist0n rfl rfl rfl ?_
                refine q_iload_n rfl rfl rfl ?_
                refine q_iload_n rfl rfl rfl ?_
                refine q_bipush rfl rfl ?_
                refine q_iushr rfl rfl (q_tn (z := 0) rfl ?_)
                refine q_iadd rfl rfl (q_tn (z := 5) rfl ?_)
                refine q_ist0n rfl rfl rfl ?_
                refine q_iload_n rfl rfl rfl ?_
                refine q_iload_n rfl rfl rfl ?_
                refine q_bipush rfl rfl ?_
                refine q_iushr rfl rfl (q_tn (z := 0) rfl ?_)
                refine q_iadd rfl rfl (q_tn (z := 5) rfl ?_)
                refine q_ist0n rfl rfl rfl ?_
                refine q_iload_n rfl rfl rfl ?_
                refine q_bipush rfl rfl ?_
                refine q_iand rfl rfl (q_tn (z := 5) rfl ?_)
                refine q_iret rfl rfl trivial ?_
                refine ⟨_, rfl, ?_⟩
                refine q_iload_n rfl rfl rfl ?_
                refine q_isub rfl rfl (q_tn (z := 5) rfl ?_)
                refine q_mmax (z := 5) rfl om_gp rfl rfl rfl ?_
                refine q_iret rfl rfl trivial ?_
                refine ⟨_, rfl, ?_⟩
                refine q_ist6 rfl rfl rfl rfl ?_
                refine q_aload_n rfl rfl rfl ?_
                refine q_getf rfl rfl (by decide) (FW_42 S hW) rfl ?_
                refine q_iload rfl rfl rfl ?_
                refine q_nS2 rfl rfl (Or.inr rfl) rfl rfl ⟨rfl, rfl⟩ rfl ?_
                change PQ _ _ _ mm_X11_says 0 [.long 0, pm_un, .int 16] [] _ _ 0 0 _
                refine q_lload_n rfl rfl rfl ?_
                refine q_iload_n rfl rfl rfl ?_
                refine q_lushr rfl rfl (q_tnl (z := 0) rfl ?_)
                refine q_lconst rfl rfl ?_
                refine q_land rfl rfl (q_tnl (z := 0) rfl ?_)
                refine q_lconst rfl rfl ?_
                refine q_lcmp rfl rfl (q_tn (z := 0) rfl ?_)
                refine q_ifeq rfl rfl (fun c785 => ?_) (fun c785 => absurd (by decide) c785)
                refine q_iconst rfl rfl ?_
                refine q_iret rfl rfl rfl ?_
                refine ⟨_, rfl, ?_⟩
                refine q_ifne rfl rfl (fun c786 => ?_) (fun c786 => absurd (by decide) c786)
                refine q_iload rfl rfl rfl ?_
                refine q_iload rfl rfl rfl ?_
                refine q_icge rfl rfl (fun c787 => ?_) (fun c787 => absurd (by decide) c787)
                refine q_icc5 (z := 17) rfl rfl rfl rfl rfl ?_
                refine q_goto rfl ?_
                refine q_iload rfl rfl rfl ?_
                refine q_bipush rfl rfl ?_
                refine q_icge rfl rfl (fun c788 => absurd c788 (by decide)) (fun c788 => ?_)
                refine q_aload_n rfl rfl rfl ?_
                refine q_iload_n rfl rfl rfl ?_
                refine q_iload rfl rfl rfl ?_
                refine q_nS3 rfl rfl (Or.inl rfl) rfl rfl ⟨rfl, rfl⟩ rfl ?_
                change PQ _ _ _ mm_X3_greaterPart 0 [.ref 45, .int 31, .int 17, pm_un, pm_un] [] _ _ 0 0 _
                refine q_iconst rfl rfl ?_
                refine q_ist3n rfl rfl rfl rfl ?_
                refine q_iconst rfl rfl ?_
                refine q_ist4 rfl rfl rfl rfl ?_
                refine q_iload rfl rfl rfl ?_
                refine q_aload_n rfl rfl rfl ?_
                refine q_alen rfl rfl (by decide) rfl rfl (q_tn (z := 5) rfl ?_)
                refine q_icge rfl rfl (fun c789 => absurd c789 (by decide)) (fun c789 => ?_)
                refine q_iload_n rfl rfl rfl ?_
                refine q_iload rfl rfl rfl ?_
                refine q_iushr rfl rfl (q_tn (z := 31) rfl ?_)
                refine q_iconst rfl rfl ?_
                refine q_iand rfl rfl (q_tn (z := 1) rfl ?_)
                refine q_ifeq rfl rfl (fun c790 => absurd c790 (by decide)) (fun c790 => ?_)
                refine q_aload_n rfl rfl rfl ?_
                refine q_iload rfl rfl rfl ?_
                refine q_lald rfl rfl (by decide) rfl (by decide) (q_tnl (z := 1074791425) rfl ?_)
                refine q_iload_n rfl rfl rfl ?_
                refine q_nS2 rfl rfl (Or.inr rfl) rfl rfl ⟨rfl, rfl⟩ rfl ?_
                change PQ _ _ _ mm_X11_says 0 [.long 1074791425, pm_un, .int 17] [] _ _ 0 0 _
                refine q_lload_n rfl rfl rfl ?_
                refine q_iload_n rfl rfl rfl ?_
                refine q_lushr rfl rfl (q_tnl (z := 8200) rfl ?_)
                refine q_lconst rfl rfl ?_
                refine q_land rfl rfl (q_tnl (z := 0) rfl ?_)
                refine q_lconst rfl rfl ?_
                refine q_lcmp rfl rfl (q_tn (z := 0) rfl ?_)
                refine q_ifeq rfl rfl (fun c791 => ?_) (fun c791 => absurd (by decide) c791)
                refine q_iconst rfl rfl ?_
                refine q_iret rfl rfl rfl ?_
                refine ⟨_, rfl, ?_⟩
                refine q_ifeq rfl rfl (fun c792 => ?_) (fun c792 => absurd (by decide) c792)
                refine q_icc4 (z := 1) rfl rfl rfl rfl rfl ?_
                refine q_goto rfl ?_
                refine q_iload rfl rfl rfl ?_
                refine q_aload_n rfl rfl rfl ?_
                refine q_alen rfl rfl (by decide) rfl rfl (q_tn (z := 5) rfl ?_)
                refine q_icge rfl rfl (fun c793 => absurd c793 (by decide)) (fun c793 => ?_)
                refine q_iload_n rfl rfl rfl ?_
                refine q_iload rfl rfl rfl ?_
                refine q_iushr rfl rfl (q_tn (z := 15) rfl ?_)
                refine q_iconst rfl rfl ?_
                refine q_iand rfl rfl (q_tn (z := 1) rfl ?_)
                refine q_ifeq rfl rfl (fun c794 => absurd c794 (by decide)) (fun c794 => ?_)
                refine q_aload_n rfl rfl rfl ?_
                refine q_iload rfl rfl rfl ?_
                refine q_lald rfl rfl (by decide) rfl (by decide) (q_tnl (z := 1074791425) rfl ?_)
                refine q_iload_n rfl rfl rfl ?_
                refine q_nS2 rfl rfl (Or.inr rfl) rfl rfl ⟨rfl, rfl⟩ rfl ?_
                change PQ _ _ _ mm_X11_says 0 [.long 1074791425, pm_un, .int 17] [] _ _ 0 0 _
                refine q_lload_n rfl rfl rfl ?_
                refine q_iload_n rfl rfl rfl ?_
                refine q_lushr rfl rfl (q_tnl (z := 8200) rfl ?_)
                refine q_lconst rfl rfl ?_
                refine q_land rfl rfl (q_tnl (z := 0) rfl ?_)
                refine q_lconst rfl rfl ?_
                refine q_lcmp rfl rfl (q_tn (z := 0) rfl ?_)
                refine q_ifeq rfl rfl (fun c795 => ?_) (fun c795 => absurd (by decide) c795)
                refine q_iconst rfl rfl ?_
                refine q_iret rfl rfl rfl ?_
                refine ⟨_, rfl, ?_⟩
                refine q_ifeq rfl rfl (fun c796 => ?_) (fun c796 => absurd (by decide) c796)
                refine q_icc4 (z := 2) rfl rfl rfl rfl rfl ?_
                refine q_goto rfl ?_
                refine q_iload rfl rfl rfl ?_
                refine q_aload_n rfl rfl rfl ?_
                refine q_alen rfl rfl (by decide) rfl rfl (q_tn (z := 5) rfl ?_)
                refine q_icge rfl rfl (fun c797 => absurd c797 (by decide)) (fun c797 => ?_)
                refine q_iload_n rfl rfl rfl ?_
                refine q_iload rfl rfl rfl ?_
                refine q_iushr rfl rfl (q_tn (z := 7) rfl ?_)
                refine q_iconst rfl rfl ?_
                refine q_iand rfl rfl (q_tn (z := 1) rfl ?_)
                refine q_ifeq rfl rfl (fun c798 => absurd c798 (by decide)) (fun c798 => ?_)
                refine q_aload_n rfl rfl rfl ?_
                refine q_iload rfl rfl rfl ?_
                refine q_lald rfl rfl (by decide) rfl (by decide) (q_tnl (z := 1074791425) rfl ?_)
                refine q_iload_n rfl rfl rfl ?_
                refine q_nS2 rfl rfl (Or.inr rfl) rfl rfl ⟨rfl, rfl⟩ rfl ?_
                change PQ _ _ _ mm_X11_says 0 [.long 1074791425, pm_un, .int 17] [] _ _ 0 0 _
                refine q_lload_n rfl rfl rfl ?_
                refine q_iload_n rfl rfl rfl ?_
                refine q_lushr rfl rfl (q_tnl (z := 8200) rfl ?_)
                refine q_lconst rfl rfl ?_
                refine q_land rfl rfl (q_tnl (z := 0) rfl ?_)
                refine q_lconst rfl rfl ?_
                refine q_lcmp rfl rfl (q_tn (z := 0) rfl ?_)
                refine q_ifeq rfl rfl (fun c799 => ?_) (fun c799 => absurd (by decide) c799)
                refine q_iconst rfl rfl ?_
                refine q_iret rfl rfl rfl ?_
                refine ⟨_, rfl, ?_⟩
                refine q_ifeq rfl rfl (fun c800 => ?_) (fun c800 => absurd (by decide) c800)
                refine q_icc4 (z := 3) rfl rfl rfl rfl rfl ?_
                refine q_goto rfl ?_
                refine q_iload rfl rfl rfl ?_
                refine q_aload_n rfl rfl rfl ?_
                refine q_alen rfl rfl (by decide) rfl rfl (q_tn (z := 5) rfl ?_)
                refine q_icge rfl rfl (fun c801 => absurd c801 (by decide)) (fun c801 => ?_)
                refine q_iload_n rfl rfl rfl ?_
                refine q_iload rfl rfl rfl ?_
                refine q_iushr rfl rfl (q_tn (z := 3) rfl ?_)
                refine q_iconst rfl rfl ?_
                refine q_iand rfl rfl (q_tn (z := 1) rfl ?_)
                refine q_ifeq rfl rfl (fun c802 => absurd c802 (by decide)) (fun c802 => ?_)
                refine q_aload_n rfl rfl rfl ?_
                refine q_iload rfl rfl rfl ?_
                refine q_lald rfl rfl (by decide) rfl (by decide) (q_tnl (z := 1074791425) rfl ?_)
                refine q_iload_n rfl rfl rfl ?_
                refine q_nS2 rfl rfl (Or.inr rfl) rfl rfl ⟨rfl, rfl⟩ rfl ?_
                change PQ _ _ _ mm_X11_says 0 [.long 1074791425, pm_un, .int 17] [] _ _ 0 0 _
                refine q_lload_n rfl rfl rfl ?_
                refine q_iload_n rfl rfl rfl ?_
                refine q_lushr rfl rfl (q_tnl (z := 8200) rfl ?_)
                refine q_lconst rfl rfl ?_
                refine q_land rfl rfl (q_tnl (z := 0) rfl ?_)
                refine q_lconst rfl rfl ?_
                refine q_lcmp rfl rfl (q_tn (z := 0) rfl ?_)
                refine q_ifeq rfl rfl (fun c803 => ?_) (fun c803 => absurd (by decide) c803)
                refine q_iconst rfl rfl ?_
                refine q_iret rfl rfl rfl ?_
                refine ⟨_, rfl, ?_⟩
                refine q_ifeq rfl rfl (fun c804 => ?_) (fun c804 => absurd (by decide) c804)
                refine q_icc4 (z := 4) rfl rfl rfl rfl rfl ?_
                refine q_goto rfl ?_
                refine q_iload rfl rfl rfl ?_
                refine q_aload_n rfl rfl rfl ?_
                refine q_alen rfl rfl (by decide) rfl rfl (q_tn (z := 5) rfl ?_)
                refine q_icge rfl rfl (fun c805 => absurd c805 (by decide)) (fun c805 => ?_)
                refine q_iload_n rfl rfl rfl ?_
                refine q_iload rfl rfl rfl ?_
                refine q_iushr rfl rfl (q_tn (z := 1) rfl ?_)
                refine q_iconst rfl rfl ?_
                refine q_iand rfl rfl (q_tn (z := 1) rfl ?_)
                refine q_ifeq rfl rfl (fun c806 => absurd c806 (by decide)) (fun c806 => ?_)
                refine q_aload_n rfl rfl rfl ?_
                refine q_iload rfl rfl rfl ?_
                refine q_lald rfl rfl (by decide) rfl (by decide) (q_tnl (z := 1074791425) rfl ?_)
                refine q_iload_n rfl rfl rfl ?_
                refine q_nS2 rfl rfl (Or.inr rfl) rfl rfl ⟨rfl, rfl⟩ rfl ?_
                change PQ _ _ _ mm_X11_says 0 [.long 1074791425, pm_un, .int 17] [] _ _ 0 0 _
                refine q_lload_n rfl rfl rfl ?_
                refine q_iload_n rfl rfl rfl ?_
                refine q_lushr rfl rfl (q_tnl (z := 8200) rfl ?_)
                refine q_lconst rfl rfl ?_
                refine q_land rfl rfl (q_tnl (z := 0) rfl ?_)
                refine q_lconst rfl rfl ?_
                refine q_lcmp rfl rfl (q_tn (z := 0) rfl ?_)
                refine q_ifeq rfl rfl (fun c807 => ?_) (fun c807 => absurd (by decide) c807)
                refine q_iconst rfl rfl ?_
                refine q_iret rfl rfl rfl ?_
                refine ⟨_, rfl, ?_⟩
                refine q_ifeq rfl rfl (fun c808 => ?_) (fun c808 => absurd (by decide) c808)
                refine q_icc4 (z := 5) rfl rfl rfl rfl rfl ?_
                refine q_goto rfl ?_
                refine q_iload rfl rfl rfl ?_
                refine q_aload_n rfl rfl rfl ?_
                refine q_alen rfl rfl (by decide) rfl rfl (q_tn (z := 5) rfl ?_)
                refine q_icge rfl rfl (fun c809 => ?_) (fun c809 => absurd (by decide) c809)
                refine q_iload_n rfl rfl rfl ?_
                refine q_iload_n rfl rfl rfl ?_
                refine q_nS1 rfl rfl (Or.inl rfl) rfl rfl ⟨rfl, rfl⟩ rfl ?_
                change PQ _ _ _ mm_J6_bitCount_0f7a4 0 [.int 31] [] _ _ 0 0 _
                refine q_iload_n rfl rfl rfl ?_
                refine q_iload_n rfl rfl rfl ?_
                refine q_iconst rfl rfl ?_
                refine q_iushr rfl rfl (q_tn (z := 15) rfl ?_)
                refine q_ldcw rfl rfl ?_
                refine q_iand rfl rfl (q_tn (z := 5) rfl ?_)
                refine q_isub rfl rfl (q_tn (z := 26) rfl ?_)
                refine q_ist0n rfl rfl rfl ?_
                refine q_iload_n rfl rfl rfl ?_
                refine q_ldcw rfl rfl ?_
                refine q_iand rfl rfl (q_tn (z := 18) rfl ?_)
                refine q_iload_n rfl rfl rfl ?_
                refine q_iconst rfl rfl ?_
                refine q_iushr rfl rfl (q_tn (z := 6) rfl ?_)
                refine q_ldcw rfl rfl ?_
                refine q_iand rfl rfl (q_tn (z := 2) rfl ?_)
                refine q_iadd rfl rfl (q_tn (z := 20) rfl ?_)
                refine q_ist0n rfl rfl rfl ?_
                refine q_iload_n rfl rfl rfl ?_
                refine q_iload_n rfl rfl rfl ?_
                refine q_iconst rfl rfl ?_
                refine q_iushr rfl rfl (q_tn (z := 1) rfl ?_)
                refine q_iadd rfl rfl (q_tn (z := 21) rfl ?_)
                refine q_ldcw rfl rfl ?_
                refine q_iand rfl rfl (q_tn (z := 5) rfl ?_)
                refine q_ist0n rfl rfl rfl ?_
                refine q_iload_n rfl rfl rfl ?_
                refine q_iload_n rfl rfl rfl ?_
                refine q_bipush rfl rfl ?_
                refine q_iushr rfl rfl (q_tn (z := 0) rfl ?_)
                refine q_iadd rfl rfl (q_tn (z := 5) rfl ?_)
                refine q_ist0n rfl rfl rfl ?_
                refine q_iload_n rfl rfl rfl ?_
                refine q_iload_n rfl rfl rfl ?_
                refine q_bipush rfl rfl ?_
                refine q_iushr rfl rfl (q_tn (z := 0) rfl ?_)
                refine q_iadd rfl rfl (q_tn (z := 5) rfl ?_)
                refine q_ist0n rfl rfl rfl ?_
                refine q_iload_n rfl rfl rfl ?_
                refine q_bipush rfl rfl ?_
                refine q_iand rfl rfl (q_tn (z := 5) rfl ?_)
                refine q_iret rfl rfl trivial ?_
                refine ⟨_, rfl, ?_⟩
                refine q_iload_n rfl rfl rfl ?_
                refine q_isub rfl rfl (q_tn (z := 5) rfl ?_)
                refine q_mmax (z := 5) rfl om_gp rfl rfl rfl ?_
                refine q_iret rfl rfl trivial ?_
                refine ⟨_, rfl, ?_⟩
                refine q_ist6 rfl rfl rfl rfl ?_
                refine q_aload_n rfl rfl rfl ?_
                refine q_getf rfl rfl (by decide) (FW_42 S hW) rfl ?_
                refine q_iload rfl rfl rfl ?_
                refine q_nS2 rfl rfl (Or.inr rfl) rfl rfl ⟨rfl, rfl⟩ rfl ?_
                change PQ _ _ _ mm_X11_says 0 [.long 0, pm_un, .int 17] [] _ _ 0 0 _
                refine q_lload_n rfl rfl rfl ?_
                refine q_iload_n rfl rfl rfl ?_
                refine q_lushr rfl rfl (q_tnl (z := 0) rfl ?_)
                refine q_lconst rfl rfl ?_
                refine q_land rfl rfl (q_tnl (z := 0) rfl ?_)
                refine q_lconst rfl rfl ?_
                refine q_lcmp rfl rfl (q_tn (z := 0) rfl ?_)
                refine q_ifeq rfl rfl (fun c810 => ?_) (fun c810 => absurd (by decide) c810)
                refine q_iconst rfl rfl ?_
                refine q_iret rfl rfl rfl ?_
                refine ⟨_, rfl, ?_⟩
                refine q_ifne rfl rfl (fun c811 => ?_) (fun c811 => absurd (by decide) c811)
                refine q_iload rfl rfl rfl ?_
                refine q_iload rfl rfl rfl ?_
                refine q_icge rfl rfl (fun c812 => ?_) (fun c812 => absurd (by decide) c812)
                refine q_icc5 (z := 18) rfl rfl rfl rfl rfl ?_
                refine q_goto rfl ?_
                refine q_iload rfl rfl rfl ?_
                refine q_bipush rfl rfl ?_
                refine q_icge rfl rfl (fun c813 => absurd c813 (by decide)) (fun c813 => ?_)
                refine q_aload_n rfl rfl rfl ?_
                refine q_iload_n rfl rfl rfl ?_
                refine q_iload rfl rfl rfl ?_
                refine q_nS3 rfl rfl (Or.inl rfl) rfl rfl ⟨rfl, rfl⟩ rfl ?_
                change PQ _ _ _ mm_X3_greaterPart 0 [.ref 45, .int 31, .int 18, pm_un, pm_un] [] _ _ 0 0 _
                refine q_iconst rfl rfl ?_
                refine q_ist3n rfl rfl rfl rfl ?_
                refine q_iconst rfl rfl ?_
                refine q_ist4 rfl rfl rfl rfl ?_
                refine q_iload rfl rfl rfl ?_
                refine q_aload_n rfl rfl rfl ?_
                refine q_alen rfl rfl (by decide) rfl rfl (q_tn (z := 5) rfl ?_)
                refine q_icge rfl rfl (fun c814 => absurd c814 (by decide)) (fun c814 => ?_)
                refine q_iload_n rfl rfl rfl ?_
                refine q_iload rfl rfl rfl ?_
                refine q_iushr rfl rfl (q_tn (z := 31) rfl ?_)
                refine q_iconst rfl rfl ?_
                refine q_iand rfl rfl (q_tn (z := 1) rfl ?_)
                refine q_ifeq rfl rfl (fun c815 => absurd c815 (by decide)) (fun c815 => ?_)
                refine q_aload_n rfl rfl rfl ?_
                refine q_iload rfl rfl rfl ?_
                refine q_lald rfl rfl (by decide) rfl (by decide) (q_tnl (z := 1074791425) rfl ?_)
                refine q_iload_n rfl rfl rfl ?_
                refine q_nS2 rfl rfl (Or.inr rfl) rfl rfl ⟨rfl, rfl⟩ rfl ?_
                change PQ _ _ _ mm_X11_says 0 [.long 1074791425, pm_un, .int 18] [] _ _ 0 0 _
                refine q_lload_n rfl rfl rfl ?_
                refine q_iload_n rfl rfl rfl ?_
                refine q_lushr rfl rfl (q_tnl (z := 4100) rfl ?_)
                refine q_lconst rfl rfl ?_
                refine q_land rfl rfl (q_tnl (z := 0) rfl ?_)
                refine q_lconst rfl rfl ?_
                refine q_lcmp rfl rfl (q_tn (z := 0) rfl ?_)
                refine q_ifeq rfl rfl (fun c816 => ?_) (fun c816 => absurd (by decide) c816)
                refine q_iconst rfl rfl ?_
                refine q_iret rfl rfl rfl ?_
                refine ⟨_, rfl, ?_⟩
                refine q_ifeq rfl rfl (fun c817 => ?_) (fun c817 => absurd (by decide) c817)
                refine q_icc4 (z := 1) rfl rfl rfl rfl rfl ?_
                refine q_goto rfl ?_
                refine q_iload rfl rfl rfl ?_
                refine q_aload_n rfl rfl rfl ?_
                refine q_alen rfl rfl (by decide) rfl rfl (q_tn (z := 5) rfl ?_)
                refine q_icge rfl rfl (fun c818 => absurd c818 (by decide)) (fun c818 => ?_)
                refine q_iload_n rfl rfl rfl ?_
                refine q_iload rfl rfl rfl ?_
                refine q_iushr rfl rfl (q_tn (z := 15) rfl ?_)
                refine q_iconst rfl rfl ?_
                refine q_iand rfl rfl (q_tn (z := 1) rfl ?_)
                refine q_ifeq rfl rfl (fun c819 => absurd c819 (by decide)) (fun c819 => ?_)
                refine q_aload_n rfl rfl rfl ?_
                refine q_iload rfl rfl rfl ?_
                refine q_lald rfl rfl (by decide) rfl (by decide) (q_tnl (z := 1074791425) rfl ?_)
                refine q_iload_n rfl rfl rfl ?_
                refine q_nS2 rfl rfl (Or.inr rfl) rfl rfl ⟨rfl, rfl⟩ rfl ?_
                change PQ _ _ _ mm_X11_says 0 [.long 1074791425, pm_un, .int 18] [] _ _ 0 0 _
                refine q_lload_n rfl rfl rfl ?_
                refine q_iload_n rfl rfl rfl ?_
                refine q_lushr rfl rfl (q_tnl (z := 4100) rfl ?_)
                refine q_lconst rfl rfl ?_
                refine q_land rfl rfl (q_tnl (z := 0) rfl ?_)
                refine q_lconst rfl rfl ?_
                refine q_lcmp rfl rfl (q_tn (z := 0) rfl ?_)
                refine q_ifeq rfl rfl (fun c820 => ?_) (fun c820 => absurd (by decide) c820)
                refine q_iconst rfl rfl ?_
                refine q_iret rfl rfl rfl ?_
                refine ⟨_, rfl, ?_⟩
                refine q_ifeq rfl rfl (fun c821 => ?_) (fun c821 => absurd (by decide) c821)
                refine q_icc4 (z := 2) rfl rfl rfl rfl rfl ?_
                refine q_goto rfl ?_
                refine q_iload rfl rfl rfl ?_
                refine q_aload_n rfl rfl rfl ?_
                refine q_alen rfl rfl (by decide) rfl rfl (q_tn (z := 5) rfl ?_)
                refine q_icge rfl rfl (fun c822 => absurd c822 (by decide)) (fun c822 => ?_)
                refine q_iload_n rfl rfl rfl ?_
                refine q_iload rfl rfl rfl ?_
                refine q_iushr rfl rfl (q_tn (z := 7) rfl ?_)
                refine q_iconst rfl rfl ?_
                refine q_iand rfl rfl (q_tn (z := 1) rfl ?_)
                refine q_ifeq rfl rfl (fun c823 => absurd c823 (by decide)) (fun c823 => ?_)
                refine q_aload_n rfl rfl rfl ?_
                refine q_iload rfl rfl rfl ?_
                refine q_lald rfl rfl (by decide) rfl (by decide) (q_tnl (z := 1074791425) rfl ?_)
                refine q_iload_n rfl rfl rfl ?_
                refine q_nS2 rfl rfl (Or.inr rfl) rfl rfl ⟨rfl, rfl⟩ rfl ?_
                change PQ _ _ _ mm_X11_says 0 [.long 1074791425, pm_un, .int 18] [] _ _ 0 0 _
                refine q_lload_n rfl rfl rfl ?_
                refine q_iload_n rfl rfl rfl ?_
                refine q_lushr rfl rfl (q_tnl (z := 4100) rfl ?_)
                refine q_lconst rfl rfl ?_
                refine q_land rfl rfl (q_tnl (z := 0) rfl ?_)
                refine q_lconst rfl rfl ?_
                refine q_lcmp rfl rfl (q_tn (z := 0) rfl ?_)
                refine q_ifeq rfl rfl (fun c824 => ?_) (fun c824 => absurd (by decide) c824)
                refine q_iconst rfl rfl ?_
                refine q_iret rfl rfl rfl ?_
                refine ⟨_, rfl, ?_⟩
                refine q_ifeq rfl rfl (fun c825 => ?_) (fun c825 => absurd (by decide) c825)
                refine q_icc4 (z := 3) rfl rfl rfl rfl rfl ?_
                refine q_goto rfl ?_
                refine q_iload rfl rfl rfl ?_
                refine q_aload_n rfl rfl rfl ?_
                refine q_alen rfl rfl (by decide) rfl rfl (q_tn (z := 5) rfl ?_)
                refine q_icge rfl rfl (fun c826 => absurd c826 (by decide)) (fun c826 => ?_)
                refine q_iload_n rfl rfl rfl ?_
                refine q_iload rfl rfl rfl ?_
                refine q_iushr rfl rfl (q_tn (z := 3) rfl ?_)
                refine q_iconst rfl rfl ?_
                refine q_iand rfl rfl (q_tn (z := 1) rfl ?_)
                refine q_ifeq rfl rfl (fun c827 => absurd c827 (by decide)) (fun c827 => ?_)
                refine q_aload_n rfl rfl rfl ?_
                refine q_iload rfl rfl rfl ?_
                refine q_lald rfl rfl (by decide) rfl (by decide) (q_tnl (z := 1074791425) rfl ?_)
                refine q_iload_n rfl rfl rfl ?_
                refine q_nS2 rfl rfl (Or.inr rfl) rfl rfl ⟨rfl, rfl⟩ rfl ?_
                change PQ _ _ _ mm_X11_says 0 [.long 1074791425, pm_un, .int 18] [] _ _ 0 0 _
                refine q_lload_n rfl rfl rfl ?_
                refine q_iload_n rfl rfl rfl ?_
                refine q_lushr rfl rfl (q_tnl (z := 4100) rfl ?_)
                refine q_lconst rfl rfl ?_
                refine q_land rfl rfl (q_tnl (z := 0) rfl ?_)
                refine q_lconst rfl rfl ?_
                refine q_lcmp rfl rfl (q_tn (z := 0) rfl ?_)
                refine q_ifeq rfl rfl (fun c828 => ?_) (fun c828 => absurd (by decide) c828)
                refine q_iconst rfl rfl ?_
                refine q_iret rfl rfl rfl ?_
                refine ⟨_, rfl, ?_⟩
                refine q_ifeq rfl rfl (fun c829 => ?_) (fun c829 => absurd (by decide) c829)
                refine q_icc4 (z := 4) rfl rfl rfl rfl rfl ?_
                refine q_goto rfl ?_
                refine q_iload rfl rfl rfl ?_
                refine q_aload_n rfl rfl rfl ?_
                refine q_alen rfl rfl (by decide) rfl rfl (q_tn (z := 5) rfl ?_)
                refine q_icge rfl rfl (fun c830 => absurd c830 (by decide)) (fun c830 => ?_)
                refine q_iload_n rfl rfl rfl ?_
                refine q_iload rfl rfl rfl ?_
                refine q_iushr rfl rfl (q_tn (z := 1) rfl ?_)
                refine q_iconst rfl rfl ?_
                refine q_iand rfl rfl (q_tn (z := 1) rfl ?_)
                refine q_ifeq rfl rfl (fun c831 => absurd c831 (by decide)) (fun c831 => ?_)
                refine q_aload_n rfl rfl rfl ?_
                refine q_iload rfl rfl rfl ?_
                refine q_lald rfl rfl (by decide) rfl (by decide) (q_tnl (z := 1074791425) rfl ?_)
                refine q_iload_n rfl rfl rfl ?_
                refine q_nS2 rfl rfl (Or.inr rfl) rfl rfl ⟨rfl, rfl⟩ rfl ?_
                change PQ _ _ _ mm_X11_says 0 [.long 1074791425, pm_un, .int 18] [] _ _ 0 0 _
                refine q_lload_n rfl rfl rfl ?_
                refine q_iload_n rfl rfl rfl ?_
                refine q_lushr rfl rfl (q_tnl (z := 4100) rfl ?_)
                refine q_lconst rfl rfl ?_
                refine q_land rfl rfl (q_tnl (z := 0) rfl ?_)
                refine q_lconst rfl rfl ?_
                refine q_lcmp rfl rfl (q_tn (z := 0) rfl ?_)
                refine q_ifeq rfl rfl (fun c832 => ?_) (fun c832 => absurd (by decide) c832)
                refine q_iconst rfl rfl ?_
                refine q_iret rfl rfl rfl ?_
                refine ⟨_, rfl, ?_⟩
                refine q_ifeq rfl rfl (fun c833 => ?_) (fun c833 => absurd (by decide) c833)
                refine q_icc4 (z := 5) rfl rfl rfl rfl rfl ?_
                refine q_goto rfl ?_
                refine q_iload rfl rfl rfl ?_
                refine q_aload_n rfl rfl rfl ?_
                refine q_alen rfl rfl (by decide) rfl rfl (q_tn (z := 5) rfl ?_)
                refine q_icge rfl rfl (fun c834 => ?_) (fun c834 => absurd (by decide) c834)
                refine q_iload_n rfl rfl rfl ?_
                refine q_iload_n rfl rfl rfl ?_
                refine q_nS1 rfl rfl (Or.inl rfl) rfl rfl ⟨rfl, rfl⟩ rfl ?_
                change PQ _ _ _ mm_J6_bitCount_0f7a4 0 [.int 31] [] _ _ 0 0 _
                refine q_iload_n rfl rfl rfl ?_
                refine q_iload_n rfl rfl rfl ?_
                refine q_iconst rfl rfl ?_
                refine q_iushr rfl rfl (q_tn (z := 15) rfl ?_)
                refine q_ldcw rfl rfl ?_
                refine q_iand rfl rfl (q_tn (z := 5) rfl ?_)
                refine q_isub rfl rfl (q_tn (z := 26) rfl ?_)
                refine q_ist0n rfl rfl rfl ?_
                refine q_iload_n rfl rfl rfl ?_
                refine q_ldcw rfl rfl ?_
                refine q_iand rfl rfl (q_tn (z := 18) rfl ?_)
                refine q_iload_n rfl rfl rfl ?_
                refine q_iconst rfl rfl ?_
                refine q_iushr rfl rfl (q_tn (z := 6) rfl ?_)
                refine q_ldcw rfl rfl ?_
                refine q_iand rfl rfl (q_tn (z := 2) rfl ?_)
                refine q_iadd rfl rfl (q_tn (z := 20) rfl ?_)
                refine q_ist0n rfl rfl rfl ?_
                refine q_iload_n rfl rfl rfl ?_
                refine q_iload_n rfl rfl rfl ?_
                refine q_iconst rfl rfl ?_
                refine q_iushr rfl rfl (q_tn (z := 1) rfl ?_)
                refine q_iadd rfl rfl (q_tn (z := 21) rfl ?_)
                refine q_ldcw rfl rfl ?_
                refine q_iand rfl rfl (q_tn (z := 5) rfl ?_)
                refine q_ist0n rfl rfl rfl ?_
                refine q_iload_n rfl rfl rfl ?_
                refine q_iload_n rfl rfl rfl ?_
                refine q_bipush rfl rfl ?_
                refine q_iushr rfl rfl (q_tn (z := 0) rfl ?_)
                refine q_iadd rfl rfl (q_tn (z := 5) rfl ?_)
                refine q_ist0n rfl rfl rfl ?_
                refine q_iload_n rfl rfl rfl ?_
                refine q_iload_n rfl rfl rfl ?_
                refine q_bipush rfl rfl ?_
                refine q_iushr rfl rfl (q_tn (z := 0) rfl ?_)
                refine q_iadd rfl rfl (q_tn (z := 5) rfl ?_)
                refine q_ist0n rfl rfl rfl ?_
                refine q_iload_n rfl rfl rfl ?_
                refine q_bipush rfl rfl ?_
                refine q_iand rfl rfl (q_tn (z := 5) rfl ?_)
                refine q_iret rfl rfl trivial ?_
                refine ⟨_, rfl, ?_⟩
                refine q_iload_n rfl rfl rfl ?_
                refine q_isub rfl rfl (q_tn (z := 5) rfl ?_)
                refine q_mmax (z := 5) rfl om_gp rfl rfl rfl ?_
                refine q_iret rfl rfl trivial ?_
                refine ⟨_, rfl, ?_⟩
                refine q_ist6 rfl rfl rfl rfl ?_
                refine q_aload_n rfl rfl rfl ?_
                refine q_getf rfl rfl (by decide) (FW_42 S hW) rfl ?_
                refine q_iload rfl rfl rfl ?_
                refine q_nS2 rfl rfl (Or.inr rfl) rfl rfl ⟨rfl, rfl⟩ rfl ?_
                change PQ _ _ _ mm_X11_says 0 [.long 0, pm_un, .int 18] [] _ _ 0 0 _
                refine q_lload_n rfl rfl rfl ?_
                refine q_iload_n rfl rfl rfl ?_
                refine q_lushr rfl rfl (q_tnl (z := 0) rfl ?_)
                refine q_lconst rfl rfl ?_
                refine q_land rfl rfl (q_tnl (z := 0) rfl ?_)
                refine q_lconst rfl rfl ?_
                refine q_lcmp rfl rfl (q_tn (z := 0) rfl ?_)
                refine q_ifeq rfl rfl (fun c835 => ?_) (fun c835 => absurd (by decide) c835)
                refine q_iconst rfl rfl ?_
                refine q_iret rfl rfl rfl ?_
                refine ⟨_, rfl, ?_⟩
                refine q_ifne rfl rfl (fun c836 => ?_) (fun c836 => absurd (by decide) c836)
                refine q_iload rfl rfl rfl ?_
                refine q_iload rfl rfl rfl ?_
                refine q_icge rfl rfl (fun c837 => ?_) (fun c837 => absurd (by decide) c837)
                refine q_icc5 (z := 19) rfl rfl rfl rfl rfl ?_
                refine q_goto rfl ?_
                refine q_iload rfl rfl rfl ?_
                refine q_bipush rfl rfl ?_
                refine q_icge rfl rfl (fun c838 => absurd c838 (by decide)) (fun c838 => ?_)
                refine q_aload_n rfl rfl rfl ?_
                refine q_iload_n rfl rfl rfl ?_
                refine q_iload rfl rfl rfl ?_
                refine q_nS3 rfl rfl (Or.inl rfl) rfl rfl ⟨rfl, rfl⟩ rfl ?_
                change PQ _ _ _ mm_X3_greaterPart 0 [.ref 45, .int 31, .int 19, pm_un, pm_un] [] _ _ 0 0 _
                refine q_iconst rfl rfl ?_
                refine q_ist3n rfl rfl rfl rfl ?_
                refine q_iconst rfl rfl ?_
                refine q_ist4 rfl rfl rfl rfl ?_
                refine q_iload rfl rfl rfl ?_
                refine q_aload_n rfl rfl rfl ?_
                refine q_alen rfl rfl (by decide) rfl rfl (q_tn (z := 5) rfl ?_)
                refine q_icge rfl rfl (fun c839 => absurd c839 (by decide)) (fun c839 => ?_)
                refine q_iload_n rfl rfl rfl ?_
                refine q_iload rfl rfl rfl ?_
                refine q_iushr rfl rfl (q_tn (z := 31) rfl ?_)
                refine q_iconst rfl rfl ?_
                refine q_iand rfl rfl (q_tn (z := 1) rfl ?_)
                refine q_ifeq rfl rfl (fun c840 => absurd c840 (by decide)) (fun c840 => ?_)
                refine q_aload_n rfl rfl rfl ?_
                refine q_iload rfl rfl rfl ?_
                refine q_lald rfl rfl (by decide) rfl (by decide) (q_tnl (z := 1074791425) rfl ?_)
                refine q_iload_n rfl rfl rfl ?_
                refine q_nS2 rfl rfl (Or.inr rfl) rfl rfl ⟨rfl, rfl⟩ rfl ?_
                change PQ _ _ _ mm_X11_says 0 [.long 1074791425, pm_un, .int 19] [] _ _ 0 0 _
                refine q_lload_n rfl rfl rfl ?_
                refine q_iload_n rfl rfl rfl ?_
                refine q_lushr rfl rfl (q_tnl (z := 2050) rfl ?_)
                refine q_lconst rfl rfl ?_
                refine q_land rfl rfl (q_tnl (z := 0) rfl ?_)
                refine q_lconst rfl rfl ?_
                refine q_lcmp rfl rfl (q_tn (z := 0) rfl ?_)
                refine q_ifeq rfl rfl (fun c841 => ?_) (fun c841 => absurd (by decide) c841)
                refine q_iconst rfl rfl ?_
                refine q_iret rfl rfl rfl ?_
                refine ⟨_, rfl, ?_⟩
                refine q_ifeq rfl rfl (fun c842 => ?_) (fun c842 => absurd (by decide) c842)
                refine q_icc4 (z := 1) rfl rfl rfl rfl rfl ?_
                refine q_goto rfl ?_
                refine q_iload rfl rfl rfl ?_
                refine q_aload_n rfl rfl rfl ?_
                refine q_alen rfl rfl (by decide) rfl rfl (q_tn (z := 5) rfl ?_)
                refine q_icge rfl rfl (fun c843 => absurd c843 (by decide)) (fun c843 => ?_)
                refine q_iload_n rfl rfl rfl ?_
                refine q_iload rfl rfl rfl ?_
                refine q_iushr rfl rfl (q_tn (z := 15) rfl ?_)
                refine q_iconst rfl rfl ?_
                refine q_iand rfl rfl (q_tn (z := 1) rfl ?_)
                refine q_ifeq rfl rfl (fun c844 => absurd c844 (by decide)) (fun c844 => ?_)
                refine q_aload_n rfl rfl rfl ?_
                refine q_iload rfl rfl rfl ?_
                refine q_lald rfl rfl (by decide) rfl (by decide) (q_tnl (z := 1074791425) rfl ?_)
                refine q_iload_n rfl rfl rfl ?_
                refine q_nS2 rfl rfl (Or.inr rfl) rfl rfl ⟨rfl, rfl⟩ rfl ?_
                change PQ _ _ _ mm_X11_says 0 [.long 1074791425, pm_un, .int 19] [] _ _ 0 0 _
                refine q_lload_n rfl rfl rfl ?_
                refine q_iload_n rfl rfl rfl ?_
                refine q_lushr rfl rfl (q_tnl (z := 2050) rfl ?_)
                refine q_lconst rfl rfl ?_
                refine q_land rfl rfl (q_tnl (z := 0) rfl ?_)
                refine q_lconst rfl rfl ?_
                refine q_lcmp rfl rfl (q_tn (z := 0) rfl ?_)
                refine q_ifeq rfl rfl (fun c845 => ?_) (fun c845 => absurd (by decide) c845)
                refine q_iconst rfl rfl ?_
                refine q_iret rfl rfl rfl ?_
                refine ⟨_, rfl, ?_⟩
                refine q_ifeq rfl rfl (fun c846 => ?_) (fun c846 => absurd (by decide) c846)
                refine q_icc4 (z := 2) rfl rfl rfl rfl rfl ?_
                refine q_goto rfl ?_
                refine q_iload rfl rfl rfl ?_
                refine q_aload_n rfl rfl rfl ?_
                refine q_alen rfl rfl (by decide) rfl rfl (q_tn (z := 5) rfl ?_)
                refine q_icge rfl rfl (fun c847 => absurd c847 (by decide)) (fun c847 => ?_)
                refine q_iload_n rfl rfl rfl ?_
                refine q_iload rfl rfl rfl ?_
                refine q_iushr rfl rfl (q_tn (z := 7) rfl ?_)
                refine q_iconst rfl rfl ?_
                refine q_iand rfl rfl (q_tn (z := 1) rfl ?_)
                refine q_ifeq rfl rfl (fun c848 => absurd c848 (by decide)) (fun c848 => ?_)
                refine q_aload_n rfl rfl rfl ?_
                refine q_iload rfl rfl rfl ?_
                refine q_lald rfl rfl (by decide) rfl (by decide) (q_tnl (z := 1074791425) rfl ?_)
                as_aux_lemma =>
                  refine q_iload_n rfl rfl rfl ?_
                  refine q_nS2 rfl rfl (Or.inr rfl) rfl rfl ⟨rfl, rfl⟩ rfl ?_
                  change PQ _ _ _ mm_X11_says 0 [.long 1074791425, pm_un, .int 19] [] _ _ 0 0 _
                  refine q_lload_n rfl rfl rfl ?_
                  refine q_iload_n rfl rfl rfl ?_
                  refine q_lushr rfl rfl (q_tnl (z := 2050) rfl ?_)
                  refine q_lconst rfl rfl ?_
                  refine q_land rfl rfl (q_tnl (z := 0) rfl ?_)
                  refine q_lconst rfl rfl ?_
                  refine q_lcmp rfl rfl (q_tn (z := 0) rfl ?_)
                  refine q_ifeq rfl rfl (fun c849 => ?_) (fun c849 => absurd (by decide) c849)
                  refine q_iconst rfl rfl ?_
                  refine q_iret rfl rfl rfl ?_
                  refine ⟨_, rfl, ?_⟩
                  refine q_ifeq rfl rfl (fun c850 => ?_) (fun c850 => absurd (by decide) c850)
                  refine q_icc4 (z := 3) rfl rfl rfl rfl rfl ?_
                  refine q_goto rfl ?_
                  refine q_iload rfl rfl rfl ?_
                  refine q_aload_n rfl rfl rfl ?_
                  refine q_alen rfl rfl (by decide) rfl rfl (q_tn (z := 5) rfl ?_)
                  refine q_icge rfl rfl (fun c851 => absurd c851 (by decide)) (fun c851 => ?_)
                  refine q_iload_n rfl rfl rfl ?_
                  refine q_iload rfl rfl rfl ?_
                  refine q_iushr rfl rfl (q_tn (z := 3) rfl ?_)
                  refine q_iconst rfl rfl ?_
                  refine q_iand rfl rfl (q_tn (z := 1) rfl ?_)
                  refine q_ifeq rfl rfl (fun c852 => absurd c852 (by decide)) (fun c852 => ?_)
                  refine q_aload_n rfl rfl rfl ?_
                  refine q_iload rfl rfl rfl ?_
                  refine q_lald rfl rfl (by decide) rfl (by decide) (q_tnl (z := 1074791425) rfl ?_)
                  refine q_iload_n rfl rfl rfl ?_
                  refine q_nS2 rfl rfl (Or.inr rfl) rfl rfl ⟨rfl, rfl⟩ rfl ?_
                  change PQ _ _ _ mm_X11_says 0 [.long 1074791425, pm_un, .int 19] [] _ _ 0 0 _
                  refine q_lload_n rfl rfl rfl ?_
                  refine q_iload_n rfl rfl rfl ?_
                  refine q_lushr rfl rfl (q_tnl (z := 2050) rfl ?_)
                  refine q_lconst rfl rfl ?_
                  refine q_land rfl rfl (q_tnl (z := 0) rfl ?_)
                  refine q_lconst rfl rfl ?_
                  refine q_lcmp rfl rfl (q_tn (z := 0) rfl ?_)
                  refine q_ifeq rfl rfl (fun c853 => ?_) (fun c853 => absurd (by decide) c853)
                  refine q_iconst rfl rfl ?_
                  refine q_iret rfl rfl rfl ?_
                  refine ⟨_, rfl, ?_⟩
                  refine q_ifeq rfl rfl (fun c854 => ?_) (fun c854 => absurd (by decide) c854)
                  refine q_icc4 (z := 4) rfl rfl rfl rfl rfl ?_
                  refine q_goto rfl ?_
                  refine q_iload rfl rfl rfl ?_
                  refine q_aload_n rfl rfl rfl ?_
                  refine q_alen rfl rfl (by decide) rfl rfl (q_tn (z := 5) rfl ?_)
                  refine q_icge rfl rfl (fun c855 => absurd c855 (by decide)) (fun c855 => ?_)
                  refine q_iload_n rfl rfl rfl ?_
                  refine q_iload rfl rfl rfl ?_
                  refine q_iushr rfl rfl (q_tn (z := 1) rfl ?_)
                  refine q_iconst rfl rfl ?_
                  refine q_iand rfl rfl (q_tn (z := 1) rfl ?_)
                  refine q_ifeq rfl rfl (fun c856 => absurd c856 (by decide)) (fun c856 => ?_)
                  refine q_aload_n rfl rfl rfl ?_
                  refine q_iload rfl rfl rfl ?_
                  refine q_lald rfl rfl (by decide) rfl (by decide) (q_tnl (z := 1074791425) rfl ?_)
                  refine q_iload_n rfl rfl rfl ?_
                  refine q_nS2 rfl rfl (Or.inr rfl) rfl rfl ⟨rfl, rfl⟩ rfl ?_
                  change PQ _ _ _ mm_X11_says 0 [.long 1074791425, pm_un, .int 19] [] _ _ 0 0 _
                  refine q_lload_n rfl rfl rfl ?_
                  refine q_iload_n rfl rfl rfl ?_
                  refine q_lushr rfl rfl (q_tnl (z := 2050) rfl ?_)
                  refine q_lconst rfl rfl ?_
                  refine q_land rfl rfl (q_tnl (z := 0) rfl ?_)
                  refine q_lconst rfl rfl ?_
                  refine q_lcmp rfl rfl (q_tn (z := 0) rfl ?_)
                  refine q_ifeq rfl rfl (fun c857 => ?_) (fun c857 => absurd (by decide) c857)
                  refine q_iconst rfl rfl ?_
                  refine q_iret rfl rfl rfl ?_
                  refine ⟨_, rfl, ?_⟩
                  refine q_ifeq rfl rfl (fun c858 => ?_) (fun c858 => absurd (by decide) c858)
                  refine q_icc4 (z := 5) rfl rfl rfl rfl rfl ?_
                  refine q_goto rfl ?_
                  refine q_iload rfl rfl rfl ?_
                  refine q_aload_n rfl rfl rfl ?_
                  refine q_alen rfl rfl (by decide) rfl rfl (q_tn (z := 5) rfl ?_)
                  refine q_icge rfl rfl (fun c859 => ?_) (fun c859 => absurd (by decide) c859)
                  refine q_iload_n rfl rfl rfl ?_
                  refine q_iload_n rfl rfl rfl ?_
                  refine q_nS1 rfl rfl (Or.inl rfl) rfl rfl ⟨rfl, rfl⟩ rfl ?_
                  change PQ _ _ _ mm_J6_bitCount_0f7a4 0 [.int 31] [] _ _ 0 0 _
                  refine q_iload_n rfl rfl rfl ?_
                  refine q_iload_n rfl rfl rfl ?_
                  refine q_iconst rfl rfl ?_
                  refine q_iushr rfl rfl (q_tn (z := 15) rfl ?_)
                  refine q_ldcw rfl rfl ?_
                  refine q_iand rfl rfl (q_tn (z := 5) rfl ?_)
                  refine q_isub rfl rfl (q_tn (z := 26) rfl ?_)
                  refine q_ist0n rfl rfl rfl ?_
                  refine q_iload_n rfl rfl rfl ?_
                  refine q_ldcw rfl rfl ?_
                  refine q_iand rfl rfl (q_tn (z := 18) rfl ?_)
                  refine q_iload_n rfl rfl rfl ?_
                  refine q_iconst rfl rfl ?_
                  refine q_iushr rfl rfl (q_tn (z := 6) rfl ?_)
                  refine q_ldcw rfl rfl ?_
                  refine q_iand rfl rfl (q_tn (z := 2) rfl ?_)
                  refine q_iadd rfl rfl (q_tn (z := 20) rfl ?_)
                  refine q_ist0n rfl rfl rfl ?_
                  refine q_iload_n rfl rfl rfl ?_
                  refine q_iload_n rfl rfl rfl ?_
                  refine q_iconst rfl rfl ?_
                  refine q_iushr rfl rfl (q_tn (z := 1) rfl ?_)
                  refine q_iadd rfl rfl (q_tn (z := 21) rfl ?_)
                  refine q_ldcw rfl rfl ?_
                  refine q_iand rfl rfl (q_tn (z := 5) rfl ?_)
                  refine q_ist0n rfl rfl rfl ?_
                  refine q_iload_n rfl rfl rfl ?_
                  refine q_iload_n rfl rfl rfl ?_
                  refine q_bipush rfl rfl ?_
                  refine q_iushr rfl rfl (q_tn (z := 0) rfl ?_)
                  refine q_iadd rfl rfl (q_tn (z := 5) rfl ?_)
                  refine q_ist0n rfl rfl rfl ?_
                  refine q_iload_n rfl rfl rfl ?_
                  refine q_iload_n rfl rfl rfl ?_
                  refine q_bipush rfl rfl ?_
                  refine q_iushr rfl rfl (q_tn (z := 0) rfl ?_)
                  refine q_iadd rfl rfl (q_tn (z := 5) rfl ?_)
                  refine q_ist0n rfl rfl rfl ?_
                  refine q_iload_n rfl rfl rfl ?_
                  refine q_bipush rfl rfl ?_
                  refine q_iand rfl rfl (q_tn (z := 5) rfl ?_)
                  refine q_iret rfl rfl trivial ?_
                  refine ⟨_, rfl, ?_⟩
                  refine q_iload_n rfl rfl rfl ?_
                  refine q_isub rfl rfl (q_tn (z := 5) rfl ?_)
                  refine q_mmax (z := 5) rfl om_gp rfl rfl rfl ?_
                  refine q_iret rfl rfl trivial ?_
                  refine ⟨_, rfl, ?_⟩
                  refine q_ist6 rfl rfl rfl rfl ?_
                  refine q_aload_n rfl rfl rfl ?_
                  refine q_getf rfl rfl (by decide) (FW_42 S hW) rfl ?_
                  refine q_iload rfl rfl rfl ?_
                  refine q_nS2 rfl rfl (Or.inr rfl) rfl rfl ⟨rfl, rfl⟩ rfl ?_
                  change PQ _ _ _ mm_X11_says 0 [.long 0, pm_un, .int 19] [] _ _ 0 0 _
                  refine q_lload_n rfl rfl rfl ?_
                  refine q_iload_n rfl rfl rfl ?_
                  refine q_lushr rfl rfl (q_tnl (z := 0) rfl ?_)
                  refine q_lconst rfl rfl ?_
                  refine q_land rfl rfl (q_tnl (z := 0) rfl ?_)
                  refine q_lconst rfl rfl ?_
                  refine q_lcmp rfl rfl (q_tn (z := 0) rfl ?_)
                  refine q_ifeq rfl rfl (fun c860 => ?_) (fun c860 => absurd (by decide) c860)
                  refine q_iconst rfl rfl ?_
                  refine q_iret rfl rfl rfl ?_
                  refine ⟨_, rfl, ?_⟩
                  refine q_ifne rfl rfl (fun c861 => ?_) (fun c861 => absurd (by decide) c861)
                  refine q_iload rfl rfl rfl ?_
                  refine q_iload rfl rfl rfl ?_
                  refine q_icge rfl rfl (fun c862 => ?_) (fun c862 => absurd (by decide) c862)
                  refine q_icc5 (z := 20) rfl rfl rfl rfl rfl ?_
                  refine q_goto rfl ?_
                  refine q_iload rfl rfl rfl ?_
                  refine q_bipush rfl rfl ?_
                  refine q_icge rfl rfl (fun c863 => absurd c863 (by decide)) (fun c863 => ?_)
                  refine q_aload_n rfl rfl rfl ?_
                  refine q_iload_n rfl rfl rfl ?_
                  refine q_iload rfl rfl rfl ?_
                  refine q_nS3 rfl rfl (Or.inl rfl) rfl rfl ⟨rfl, rfl⟩ rfl ?_
                  change PQ _ _ _ mm_X3_greaterPart 0 [.ref 45, .int 31, .int 20, pm_un, pm_un] [] _ _ 0 0 _
                  refine q_iconst rfl rfl ?_
                  refine q_ist3n rfl rfl rfl rfl ?_
                  refine q_iconst rfl rfl ?_
                  refine q_ist4 rfl rfl rfl rfl ?_
                  refine q_iload rfl rfl rfl ?_
                  refine q_aload_n rfl rfl rfl ?_
                  refine q_alen rfl rfl (by decide) rfl rfl (q_tn (z := 5) rfl ?_)
                  refine q_icge rfl rfl (fun c864 => absurd c864 (by decide)) (fun c864 => ?_)
                  refine q_iload_n rfl rfl rfl ?_
                  refine q_iload rfl rfl rfl ?_
                  refine q_iushr rfl rfl (q_tn (z := 31) rfl ?_)
                  refine q_iconst rfl rfl ?_
                  refine q_iand rfl rfl (q_tn (z := 1) rfl ?_)
                  refine q_ifeq rfl rfl (fun c865 => absurd c865 (by decide)) (fun c865 => ?_)
                  refine q_aload_n rfl rfl rfl ?_
                  refine q_iload rfl rfl rfl ?_
                  refine q_lald rfl rfl (by decide) rfl (by decide) (q_tnl (z := 1074791425) rfl ?_)
                  refine q_iload_n rfl rfl rfl ?_
                  refine q_nS2 rfl rfl (Or.inr rfl) rfl rfl ⟨rfl, rfl⟩ rfl ?_
                  change PQ _ _ _ mm_X11_says 0 [.long 1074791425, pm_un, .int 20] [] _ _ 0 0 _
                  refine q_lload_n rfl rfl rfl ?_
                  refine q_iload_n rfl rfl rfl ?_
                  refine q_lushr rfl rfl (q_tnl (z := 1025) rfl ?_)
                  refine q_lconst rfl rfl ?_
                  refine q_land rfl rfl (q_tnl (z := 1) rfl ?_)
                  refine q_lconst rfl rfl ?_
                  refine q_lcmp rfl rfl (q_tn (z := 1) rfl ?_)
                  refine q_ifeq rfl rfl (fun c866 => absurd c866 (by decide)) (fun c866 => ?_)
                  refine q_iconst rfl rfl ?_
                  refine q_goto rfl ?_
                  refine q_iret rfl rfl rfl ?_
                  refine ⟨_, rfl, ?_⟩
                  refine q_ifeq rfl rfl (fun c867 => absurd c867 (by decide)) (fun c867 => ?_)
                  refine q_icc3 (z := 1) rfl rfl rfl rfl rfl ?_
                  refine q_icc4 (z := 1) rfl rfl rfl rfl rfl ?_
                  refine q_goto rfl ?_
                  refine q_iload rfl rfl rfl ?_
                  refine q_aload_n rfl rfl rfl ?_
                  refine q_alen rfl rfl (by decide) rfl rfl (q_tn (z := 5) rfl ?_)
                  refine q_icge rfl rfl (fun c868 => absurd c868 (by decide)) (fun c868 => ?_)
                  refine q_iload_n rfl rfl rfl ?_
                  refine q_iload rfl rfl rfl ?_
                  refine q_iushr rfl rfl (q_tn (z := 15) rfl ?_)
                  refine q_iconst rfl rfl ?_
                  refine q_iand rfl rfl (q_tn (z := 1) rfl ?_)
                  refine q_ifeq rfl rfl (fun c869 => absurd c869 (by decide)) (fun c869 => ?_)
                  refine q_aload_n rfl rfl rfl ?_
                  refine q_iload rfl rfl rfl ?_
                  refine q_lald rfl rfl (by decide) rfl (by decide) (q_tnl (z := 1074791425) rfl ?_)
                  refine q_iload_n rfl rfl rfl ?_
                  refine q_nS2 rfl rfl (Or.inr rfl) rfl rfl ⟨rfl, rfl⟩ rfl ?_
                  change PQ _ _ _ mm_X11_says 0 [.long 1074791425, pm_un, .int 20] [] _ _ 0 0 _
                  refine q_lload_n rfl rfl rfl ?_
                  refine q_iload_n rfl rfl rfl ?_
                  refine q_lushr rfl rfl (q_tnl (z := 1025) rfl ?_)
                  refine q_lconst rfl rfl ?_
                  refine q_land rfl rfl (q_tnl (z := 1) rfl ?_)
                  refine q_lconst rfl rfl ?_
                  refine q_lcmp rfl rfl (q_tn (z := 1) rfl ?_)
                  refine q_ifeq rfl rfl (fun c870 => absurd c870 (by decide)) (fun c870 => ?_)
                  refine q_iconst rfl rfl ?_
                  refine q_goto rfl ?_
                  refine q_iret rfl rfl rfl ?_
                  refine ⟨_, rfl, ?_⟩
                  refine q_ifeq rfl rfl (fun c871 => absurd c871 (by decide)) (fun c871 => ?_)
                  refine q_icc3 (z := 2) rfl rfl rfl rfl rfl ?_
                  refine q_icc4 (z := 2) rfl rfl rfl rfl rfl ?_
                  refine q_goto rfl ?_
                  refine q_iload rfl rfl rfl ?_
                  refine q_aload_n rfl rfl rfl ?_
                  refine q_alen rfl rfl (by decide) rfl rfl (q_tn (z := 5) rfl ?_)
                  refine q_icge rfl rfl (fun c872 => absurd c872 (by decide)) (fun c872 => ?_)
                  refine q_iload_n rfl rfl rfl ?_
                  refine q_iload rfl rfl rfl ?_
                  refine q_iushr rfl rfl (q_tn (z := 7) rfl ?_)
                  refine q_iconst rfl rfl ?_
                  refine q_iand rfl rfl (q_tn (z := 1) rfl ?_)
                  refine q_ifeq rfl rfl (fun c873 => absurd c873 (by decide)) (fun c873 => ?_)
                  refine q_aload_n rfl rfl rfl ?_
                  refine q_iload rfl rfl rfl ?_
                  refine q_lald rfl rfl (by decide) rfl (by decide) (q_tnl (z := 1074791425) rfl ?_)
                  refine q_iload_n rfl rfl rfl ?_
                  refine q_nS2 rfl rfl (Or.inr rfl) rfl rfl ⟨rfl, rfl⟩ rfl ?_
                  change PQ _ _ _ mm_X11_says 0 [.long 1074791425, pm_un, .int 20] [] _ _ 0 0 _
                  refine q_lload_n rfl rfl rfl ?_
                  refine q_iload_n rfl rfl rfl ?_
                  refine q_lushr rfl rfl (q_tnl (z := 1025) rfl ?_)
                  refine q_lconst rfl rfl ?_
                  refine q_land rfl rfl (q_tnl (z := 1) rfl ?_)
                  refine q_lconst rfl rfl ?_
                  refine q_lcmp rfl rfl (q_tn (z := 1) rfl ?_)
                  refine q_ifeq rfl rfl (fun c874 => absurd c874 (by decide)) (fun c874 => ?_)
                  refine q_iconst rfl rfl ?_
                  refine q_goto rfl ?_
                  refine q_iret rfl rfl rfl ?_
                  refine ⟨_, rfl, ?_⟩
                  refine q_ifeq rfl rfl (fun c875 => absurd c875 (by decide)) (fun c875 => ?_)
                  refine q_icc3 (z := 3) rfl rfl rfl rfl rfl ?_
                  refine q_icc4 (z := 3) rfl rfl rfl rfl rfl ?_
                  refine q_goto rfl ?_
                  refine q_iload rfl rfl rfl ?_
                  refine q_aload_n rfl rfl rfl ?_
                  refine q_alen rfl rfl (by decide) rfl rfl (q_tn (z := 5) rfl ?_)
                  refine q_icge rfl rfl (fun c876 => absurd c876 (by decide)) (fun c876 => ?_)
                  refine q_iload_n rfl rfl rfl ?_
                  refine q_iload rfl rfl rfl ?_
                  refine q_iushr rfl rfl (q_tn (z := 3) rfl ?_)
                  refine q_iconst rfl rfl ?_
                  refine q_iand rfl rfl (q_tn (z := 1) rfl ?_)
                  refine q_ifeq rfl rfl (fun c877 => absurd c877 (by decide)) (fun c877 => ?_)
                  refine q_aload_n rfl rfl rfl ?_
                  refine q_iload rfl rfl rfl ?_
                  refine q_lald rfl rfl (by decide) rfl (by decide) (q_tnl (z := 1074791425) rfl ?_)
                  refine q_iload_n rfl rfl rfl ?_
                  refine q_nS2 rfl rfl (Or.inr rfl) rfl rfl ⟨rfl, rfl⟩ rfl ?_
                  change PQ _ _ _ mm_X11_says 0 [.long 1074791425, pm_un, .int 20] [] _ _ 0 0 _
                  refine q_lload_n rfl rfl rfl ?_
                  refine q_iload_n rfl rfl rfl ?_
                  refine q_lushr rfl rfl (q_tnl (z := 1025) rfl ?_)
                  refine q_lconst rfl rfl ?_
                  refine q_land rfl rfl (q_tnl (z := 1) rfl ?_)
                  refine q_lconst rfl rfl ?_
                  refine q_lcmp rfl rfl (q_tn (z := 1) rfl ?_)
                  refine q_ifeq rfl rfl (fun c878 => absurd c878 (by decide)) (fun c878 => ?_)
                  refine q_iconst rfl rfl ?_
                  refine q_goto rfl ?_
                  refine q_iret rfl rfl rfl ?_
                  refine ⟨_, rfl, ?_⟩
                  refine q_ifeq rfl rfl (fun c879 => absurd c879 (by decide)) (fun c879 => ?_)
                  refine q_icc3 (z := 4) rfl rfl rfl rfl rfl ?_
                  refine q_icc4 (z := 4) rfl rfl rfl rfl rfl ?_
                  refine q_goto rfl ?_
                  refine q_iload rfl rfl rfl ?_
                  refine q_aload_n rfl rfl rfl ?_
                  refine q_alen rfl rfl (by decide) rfl rfl (q_tn (z := 5) rfl ?_)
                  refine q_icge rfl rfl (fun c880 => absurd c880 (by decide)) (fun c880 => ?_)
                  refine q_iload_n rfl rfl rfl ?_
                  refine q_iload rfl rfl rfl ?_
                  refine q_iushr rfl rfl (q_tn (z := 1) rfl ?_)
                  refine q_iconst rfl rfl ?_
                  refine q_iand rfl rfl (q_tn (z := 1) rfl ?_)
                  refine q_ifeq rfl rfl (fun c881 => absurd c881 (by decide)) (fun c881 => ?_)
                  refine q_aload_n rfl rfl rfl ?_
                  refine q_iload rfl rfl rfl ?_
                  refine q_lald rfl rfl (by decide) rfl (by decide) (q_tnl (z := 1074791425) rfl ?_)
                  refine q_iload_n rfl rfl rfl ?_
                  refine q_nS2 rfl rfl (Or.inr rfl) rfl rfl ⟨rfl, rfl⟩ rfl ?_
                  change PQ _ _ _ mm_X11_says 0 [.long 1074791425, pm_un, .int 20] [] _ _ 0 0 _
                  refine q_lload_n rfl rfl rfl ?_
                  refine q_iload_n rfl rfl rfl ?_
                  refine q_lushr rfl rfl (q_tnl (z := 1025) rfl ?_)
                  refine q_lconst rfl rfl ?_
                  refine q_land rfl rfl (q_tnl (z := 1) rfl ?_)
                  refine q_lconst rfl rfl ?_
                  refine q_lcmp rfl rfl (q_tn (z := 1) rfl ?_)
                  refine q_ifeq rfl rfl (fun c882 => absurd c882 (by decide)) (fun c882 => ?_)
                  refine q_iconst rfl rfl ?_
                  refine q_goto rfl ?_
                  refine q_iret rfl rfl rfl ?_
                  refine ⟨_, rfl, ?_⟩
                  refine q_ifeq rfl rfl (fun c883 => absurd c883 (by decide)) (fun c883 => ?_)
                  refine q_icc3 (z := 5) rfl rfl rfl rfl rfl ?_
                  refine q_icc4 (z := 5) rfl rfl rfl rfl rfl ?_
                  refine q_goto rfl ?_
                  refine q_iload rfl rfl rfl ?_
                  refine q_aload_n rfl rfl rfl ?_
                  refine q_alen rfl rfl (by decide) rfl rfl (q_tn (z := 5) rfl ?_)
                  refine q_icge rfl rfl (fun c884 => ?_) (fun c884 => absurd (by decide) c884)
                  refine q_iload_n rfl rfl rfl ?_
                  refine q_iload_n rfl rfl rfl ?_
                  refine q_nS1 rfl rfl (Or.inl rfl) rfl rfl ⟨rfl, rfl⟩ rfl ?_
                  change PQ _ _ _ mm_J6_bitCount_0f7a4 0 [.int 31] [] _ _ 0 0 _
                  refine q_iload_n rfl rfl rfl ?_
                  refine q_iload_n rfl rfl rfl ?_
                  refine q_iconst rfl rfl ?_
                  refine q_iushr rfl rfl (q_tn (z := 15) rfl ?_)
                  refine q_ldcw rfl rfl ?_
                  refine q_iand rfl rfl (q_tn (z := 5) rfl ?_)
                  refine q_isub rfl rfl (q_tn (z := 26) rfl ?_)
                  refine q_ist0n rfl rfl rfl ?_
                  refine q_iload_n rfl rfl rfl ?_
                  refine q_ldcw rfl rfl ?_
                  refine q_iand rfl rfl (q_tn (z := 18) rfl ?_)
                  refine q_iload_n rfl rfl rfl ?_
                  refine q_iconst rfl rfl ?_
                  refine q_iushr rfl rfl (q_tn (z := 6) rfl ?_)
                  refine q_ldcw rfl rfl ?_
                  refine q_iand rfl rfl (q_tn (z := 2) rfl ?_)
                  refine q_iadd rfl rfl (q_tn (z := 20) rfl ?_)
                  refine q_ist0n rfl rfl rfl ?_
                  refine q_iload_n rfl rfl rfl ?_
                  refine q_iload_n rfl rfl rfl ?_
                  refine q_iconst rfl rfl ?_
                  refine q_iushr rfl rfl (q_tn (z := 1) rfl ?_)
                  refine q_iadd rfl rfl (q_tn (z := 21) rfl ?_)
                  refine q_ldcw rfl rfl ?_
                  refine q_iand rfl rfl (q_tn (z := 5) rfl ?_)
                  refine q_ist0n rfl rfl rfl ?_
                  refine q_iload_n rfl rfl rfl ?_
                  refine q_iload_n rfl rfl rfl ?_
                  refine q_bipush rfl rfl ?_
                  refine q_iushr rfl rfl (q_tn (z := 0) rfl ?_)
                  refine q_iadd rfl rfl (q_tn (z := 5) rfl ?_)
                  refine q_ist0n rfl rfl rfl ?_
                  refine q_iload_n rfl rfl rfl ?_
                  refine q_iload_n rfl rfl rfl ?_
                  refine q_bipush rfl rfl ?_
                  refine q_iushr rfl rfl (q_tn (z := 0) rfl ?_)
                  refine q_iadd rfl rfl (q_tn (z := 5) rfl ?_)
                  refine q_ist0n rfl rfl rfl ?_
                  refine q_iload_n rfl rfl rfl ?_
                  refine q_bipush rfl rfl ?_
                  refine q_iand rfl rfl (q_tn (z := 5) rfl ?_)
                  refine q_iret rfl rfl trivial ?_
                  refine ⟨_, rfl, ?_⟩
                  refine q_iload_n rfl rfl rfl ?_
                  refine q_isub rfl rfl (q_tn (z := 0) rfl ?_)
                  refine q_mmax (z := 5) rfl om_gp rfl rfl rfl ?_
                  refine q_iret rfl rfl trivial ?_
                  refine ⟨_, rfl, ?_⟩
                  refine q_ist6 rfl rfl rfl rfl ?_
                  refine q_aload_n rfl rfl rfl ?_
                  refine q_getf rfl rfl (by decide) (FW_42 S hW) rfl ?_
                  refine q_iload rfl rfl rfl ?_
                  refine q_nS2 rfl rfl (Or.inr rfl) rfl rfl ⟨rfl, rfl⟩ rfl ?_
                  change PQ _ _ _ mm_X11_says 0 [.long 0, pm_un, .int 20] [] _ _ 0 0 _
                  refine q_lload_n rfl rfl rfl ?_
                  refine q_iload_n rfl rfl rfl ?_
                  refine q_lushr rfl rfl (q_tnl (z := 0) rfl ?_)
                  refine q_lconst rfl rfl ?_
                  refine q_land rfl rfl (q_tnl (z := 0) rfl ?_)
                  refine q_lconst rfl rfl ?_
                  refine q_lcmp rfl rfl (q_tn (z := 0) rfl ?_)
                  refine q_ifeq rfl rfl (fun c885 => ?_) (fun c885 => absurd (by decide) c885)
                  refine q_iconst rfl rfl ?_
                  refine q_iret rfl rfl rfl ?_
                  refine ⟨_, rfl, ?_⟩
                  refine q_ifne rfl rfl (fun c886 => ?_) (fun c886 => absurd (by decide) c886)
                  refine q_iload rfl rfl rfl ?_
                  refine q_iload rfl rfl rfl ?_
                  refine q_icge rfl rfl (fun c887 => ?_) (fun c887 => absurd (by decide) c887)
                  refine q_icc5 (z := 21) rfl rfl rfl rfl rfl ?_
                  refine q_goto rfl ?_
                  refine q_iload rfl rfl rfl ?_
                  refine q_bipush rfl rfl ?_
                  refine q_icge rfl rfl (fun c888 => absurd c888 (by decide)) (fun c888 => ?_)
                  refine q_aload_n rfl rfl rfl ?_
                  refine q_iload_n rfl rfl rfl ?_
                  refine q_iload rfl rfl rfl ?_
                  refine q_nS3 rfl rfl (Or.inl rfl) rfl rfl ⟨rfl, rfl⟩ rfl ?_
                  change PQ _ _ _ mm_X3_greaterPart 0 [.ref 45, .int 31, .int 21, pm_un, pm_un] [] _ _ 0 0 _
                  refine q_iconst rfl rfl ?_
                  refine q_ist3n rfl rfl rfl rfl ?_
                  refine q_iconst rfl rfl ?_
                  refine q_ist4 rfl rfl rfl rfl ?_
                  refine q_iload rfl rfl rfl ?_
                  refine q_aload_n rfl rfl rfl ?_
                  refine q_alen rfl rfl (by decide) rfl rfl (q_tn (z := 5) rfl ?_)
                  refine q_icge rfl rfl (fun c889 => absurd c889 (by decide)) (fun c889 => ?_)
                  refine q_iload_n rfl rfl rfl ?_
                  refine q_iload rfl rfl rfl ?_
                  refine q_iushr rfl rfl (q_tn (z := 31) rfl ?_)
                  refine q_iconst rfl rfl ?_
                  refine q_iand rfl rfl (q_tn (z := 1) rfl ?_)
                  refine q_ifeq rfl rfl (fun c890 => absurd c890 (by decide)) (fun c890 => ?_)
                  refine q_aload_n rfl rfl rfl ?_
                  refine q_iload rfl rfl rfl ?_
                  refine q_lald rfl rfl (by decide) rfl (by decide) (q_tnl (z := 1074791425) rfl ?_)
                  refine q_iload_n rfl rfl rfl ?_
                  refine q_nS2 rfl rfl (Or.inr rfl) rfl rfl ⟨rfl, rfl⟩ rfl ?_
                  change PQ _ _ _ mm_X11_says 0 [.long 1074791425, pm_un, .int 21] [] _ _ 0 0 _
                  refine q_lload_n rfl rfl rfl ?_
                  refine q_iload_n rfl rfl rfl ?_
                  refine q_lushr rfl rfl (q_tnl (z := 512) rfl ?_)
                  refine q_lconst rfl rfl ?_
                  refine q_land rfl rfl (q_tnl (z := 0) rfl ?_)
                  refine q_lconst rfl rfl ?_
                  refine q_lcmp rfl rfl (q_tn (z := 0) rfl ?_)
                  refine q_ifeq rfl rfl (fun c891 => ?_) (fun c891 => absurd (by decide) c891)
                  refine q_iconst rfl rfl ?_
                  refine q_iret rfl rfl rfl ?_
                  refine ⟨_, rfl, ?_⟩
                  refine q_ifeq rfl rfl (fun c892 => ?_) (fun c892 => absurd (by decide) c892)
                  refine q_icc4 (z := 1) rfl rfl rfl rfl rfl ?_
                  refine q_goto rfl ?_
                  refine q_iload rfl rfl rfl ?_
                  refine q_aload_n rfl rfl rfl ?_
                  refine q_alen rfl rfl (by decide) rfl rfl (q_tn (z := 5) rfl ?_)
                  refine q_icge rfl rfl (fun c893 => absurd c893 (by decide)) (fun c893 => ?_)
                  refine q_iload_n rfl rfl rfl ?_
                  refine q_iload rfl rfl rfl ?_
                  refine q_iushr rfl rfl (q_tn (z := 15) rfl ?_)
                  refine q_iconst rfl rfl ?_
                  refine q_iand rfl rfl (q_tn (z := 1) rfl ?_)
                  refine q_ifeq rfl rfl (fun c894 => absurd c894 (by decide)) (fun c894 => ?_)
                  refine q_aload_n rfl rfl rfl ?_
                  refine q_iload rfl rfl rfl ?_
                  refine q_lald rfl rfl (by decide) rfl (by decide) (q_tnl (z := 1074791425) rfl ?_)
                  refine q_iload_n rfl rfl rfl ?_
                  refine q_nS2 rfl rfl (Or.inr rfl) rfl rfl ⟨rfl, rfl⟩ rfl ?_
                  change PQ _ _ _ mm_X11_says 0 [.long 1074791425, pm_un, .int 21] [] _ _ 0 0 _
                  refine q_lload_n rfl rfl rfl ?_
                  refine q_iload_n rfl rfl rfl ?_
                  refine q_lushr rfl rfl (q_tnl (z := 512) rfl ?_)
                  refine q_lconst rfl rfl ?_
                  refine q_land rfl rfl (q_tnl (z := 0) rfl ?_)
                  refine q_lconst rfl rfl ?_
                  refine q_lcmp rfl rfl (q_tn (z := 0) rfl ?_)
                  refine q_ifeq rfl rfl (fun c895 => ?_) (fun c895 => absurd (by decide) c895)
                  refine q_iconst rfl rfl ?_
                  refine q_iret rfl rfl rfl ?_
                  refine ⟨_, rfl, ?_⟩
                  refine q_ifeq rfl rfl (fun c896 => ?_) (fun c896 => absurd (by decide) c896)
                  refine q_icc4 (z := 2) rfl rfl rfl rfl rfl ?_
                  refine q_goto rfl ?_
                  refine q_iload rfl rfl rfl ?_
                  refine q_aload_n rfl rfl rfl ?_
                  refine q_alen rfl rfl (by decide) rfl rfl (q_tn (z := 5) rfl ?_)
                  refine q_icge rfl rfl (fun c897 => absurd c897 (by decide)) (fun c897 => ?_)
                  refine q_iload_n rfl rfl rfl ?_
                  refine q_iload rfl rfl rfl ?_
                  refine q_iushr rfl rfl (q_tn (z := 7) rfl ?_)
                  refine q_iconst rfl rfl ?_
                  refine q_iand rfl rfl (q_tn (z := 1) rfl ?_)
                  refine q_ifeq rfl rfl (fun c898 => absurd c898 (by decide)) (fun c898 => ?_)
                  refine q_aload_n rfl rfl rfl ?_
                  refine q_iload rfl rfl rfl ?_
                  refine q_lald rfl rfl (by decide) rfl (by decide) (q_tnl (z := 1074791425) rfl ?_)
                  refine q_iload_n rfl rfl rfl ?_
                  refine q_nS2 rfl rfl (Or.inr rfl) rfl rfl ⟨rfl, rfl⟩ rfl ?_
                  change PQ _ _ _ mm_X11_says 0 [.long 1074791425, pm_un, .int 21] [] _ _ 0 0 _
                  refine q_lload_n rfl rfl rfl ?_
                  refine q_iload_n rfl rfl rfl ?_
                  refine q_lushr rfl rfl (q_tnl (z := 512) rfl ?_)
                  refine q_lconst rfl rfl ?_
                  refine q_land rfl rfl (q_tnl (z := 0) rfl ?_)
                  refine q_lconst rfl rfl ?_
                  refine q_lcmp rfl rfl (q_tn (z := 0) rfl ?_)
                  refine q_ifeq rfl rfl (fun c899 => ?_) (fun c899 => absurd (by decide) c899)
                  refine q_iconst rfl rfl ?_
                  refine q_iret rfl rfl rfl ?_
                  refine ⟨_, rfl, ?_⟩
                  refine q_ifeq rfl rfl (fun c900 => ?_) (fun c900 => absurd (by decide) c900)
                  refine q_icc4 (z := 3) rfl rfl rfl rfl rfl ?_
                  refine q_goto rfl ?_
                  refine q_iload rfl rfl rfl ?_
                  refine q_aload_n rfl rfl rfl ?_
                  refine q_alen rfl rfl (by decide) rfl rfl (q_tn (z := 5) rfl ?_)
                  refine q_icge rfl rfl (fun c901 => absurd c901 (by decide)) (fun c901 => ?_)
                  refine q_iload_n rfl rfl rfl ?_
                  refine q_iload rfl rfl rfl ?_
                  refine q_iushr rfl rfl (q_tn (z := 3) rfl ?_)
                  refine q_iconst rfl rfl ?_
                  refine q_iand rfl rfl (q_tn (z := 1) rfl ?_)
                  refine q_ifeq rfl rfl (fun c902 => absurd c902 (by decide)) (fun c902 => ?_)
                  refine q_aload_n rfl rfl rfl ?_
                  refine q_iload rfl rfl rfl ?_
                  refine q_lald rfl rfl (by decide) rfl (by decide) (q_tnl (z := 1074791425) rfl ?_)
                  refine q_iload_n rfl rfl rfl ?_
                  refine q_nS2 rfl rfl (Or.inr rfl) rfl rfl ⟨rfl, rfl⟩ rfl ?_
                  change PQ _ _ _ mm_X11_says 0 [.long 1074791425, pm_un, .int 21] [] _ _ 0 0 _
                  refine q_lload_n rfl rfl rfl ?_
                  refine q_iload_n rfl rfl rfl ?_
                  refine q_lushr rfl rfl (q_tnl (z := 512) rfl ?_)
                  refine q_lconst rfl rfl ?_
                  refine q_land rfl rfl (q_tnl (z := 0) rfl ?_)
                  refine q_lconst rfl rfl ?_
                  refine q_lcmp rfl rfl (q_tn (z := 0) rfl ?_)
                  refine q_ifeq rfl rfl (fun c903 => ?_) (fun c903 => absurd (by decide) c903)
                  refine q_iconst rfl rfl ?_
                  refine q_iret rfl rfl rfl ?_
                  refine ⟨_, rfl, ?_⟩
                  refine q_ifeq rfl rfl (fun c904 => ?_) (fun c904 => absurd (by decide) c904)
                  refine q_icc4 (z := 4) rfl rfl rfl rfl rfl ?_
                  refine q_goto rfl ?_
                  refine q_iload rfl rfl rfl ?_
                  refine q_aload_n rfl rfl rfl ?_
                  refine q_alen rfl rfl (by decide) rfl rfl (q_tn (z := 5) rfl ?_)
                  refine q_icge rfl rfl (fun c905 => absurd c905 (by decide)) (fun c905 => ?_)
                  refine q_iload_n rfl rfl rfl ?_
                  refine q_iload rfl rfl rfl ?_
                  refine q_iushr rfl rfl (q_tn (z := 1) rfl ?_)
                  refine q_iconst rfl rfl ?_
                  refine q_iand rfl rfl (q_tn (z := 1) rfl ?_)
                  refine q_ifeq rfl rfl (fun c906 => absurd c906 (by decide)) (fun c906 => ?_)
                  refine q_aload_n rfl rfl rfl ?_
                  refine q_iload rfl rfl rfl ?_
                  refine q_lald rfl rfl (by decide) rfl (by decide) (q_tnl (z := 1074791425) rfl ?_)
                  refine q_iload_n rfl rfl rfl ?_
                  refine q_nS2 rfl rfl (Or.inr rfl) rfl rfl ⟨rfl, rfl⟩ rfl ?_
                  change PQ _ _ _ mm_X11_says 0 [.long 1074791425, pm_un, .int 21] [] _ _ 0 0 _
                  refine q_lload_n rfl rfl rfl ?_
                  refine q_iload_n rfl rfl rfl ?_
                  refine q_lushr rfl rfl (q_tnl (z := 512) rfl ?_)
                  refine q_lconst rfl rfl ?_
                  refine q_land rfl rfl (q_tnl (z := 0) rfl ?_)
                  refine q_lconst rfl rfl ?_
                  refine q_lcmp rfl rfl (q_tn (z := 0) rfl ?_)
                  refine q_ifeq rfl rfl (fun c907 => ?_) (fun c907 => absurd (by decide) c907)
                  refine q_iconst rfl rfl ?_
                  refine q_iret rfl rfl rfl ?_
                  refine ⟨_, rfl, ?_⟩
                  refine q_ifeq rfl rfl (fun c908 => ?_) (fun c908 => absurd (by decide) c908)
                  refine q_icc4 (z := 5) rfl rfl rfl rfl rfl ?_
                  refine q_goto rfl ?_
                  refine q_iload rfl rfl rfl ?_
                  refine q_aload_n rfl rfl rfl ?_
                  refine q_alen rfl rfl (by decide) rfl rfl (q_tn (z := 5) rfl ?_)
                  refine q_icge rfl rfl (fun c909 => ?_) (fun c909 => absurd (by decide) c909)
                  refine q_iload_n rfl rfl rfl ?_
                  refine q_iload_n rfl rfl rfl ?_
                  refine q_nS1 rfl rfl (Or.inl rfl) rfl rfl ⟨rfl, rfl⟩ rfl ?_
                  change PQ _ _ _ mm_J6_bitCount_0f7a4 0 [.int 31] [] _ _ 0 0 _
                  refine q_iload_n rfl rfl rfl ?_
                  refine q_iload_n rfl rfl rfl ?_
                  refine q_iconst rfl rfl ?_
                  refine q_iushr rfl rfl (q_tn (z := 15) rfl ?_)
                  refine q_ldcw rfl rfl ?_
                  refine q_iand rfl rfl (q_tn (z := 5) rfl ?_)
                  refine q_isub rfl rfl (q_tn (z := 26) rfl ?_)
                  refine q_ist0n rfl rfl rfl ?_
                  refine q_iload_n rfl rfl rfl ?_
                  refine q_ldcw rfl rfl ?_
                  refine q_iand rfl rfl (q_tn (z := 18) rfl ?_)
                  refine q_iload_n rfl rfl rfl ?_
                  refine q_iconst rfl rfl ?_
                  refine q_iushr rfl rfl (q_tn (z := 6) rfl ?_)
                  refine q_ldcw rfl rfl ?_
                  refine q_iand rfl rfl (q_tn (z := 2) rfl ?_)
                  refine q_iadd rfl rfl (q_tn (z := 20) rfl ?_)
                  refine q_ist0n rfl rfl rfl ?_
                  refine q_iload_n rfl rfl rfl ?_
                  refine q_iload_n rfl rfl rfl ?_
                  refine q_iconst rfl rfl ?_
                  refine q_iushr rfl rfl (q_tn (z := 1) rfl ?_)
                  refine q_iadd rfl rfl (q_tn (z := 21) rfl ?_)
                  refine q_ldcw rfl rfl ?_
                  refine q_iand rfl rfl (q_tn (z := 5) rfl ?_)
                  refine q_ist0n rfl rfl rfl ?_
                  refine q_iload_n rfl rfl rfl ?_
                  refine q_iload_n rfl rfl rfl ?_
                  refine q_bipush rfl rfl ?_
                  refine q_iushr rfl rfl (q_tn (z := 0) rfl ?_)
                  refine q_iadd rfl rfl (q_tn (z := 5) rfl ?_)
                  refine q_ist0n rfl rfl rfl ?_
                  refine q_iload_n rfl rfl rfl ?_
                  refine q_iload_n rfl rfl rfl ?_
                  refine q_bipush rfl rfl ?_
                  refine q_iushr rfl rfl (q_tn (z := 0) rfl ?_)
                  refine q_iadd rfl rfl (q_tn (z := 5) rfl ?_)
                  refine q_ist0n rfl rfl rfl ?_
                  refine q_iload_n rfl rfl rfl ?_
                  refine q_bipush rfl rfl ?_
                  refine q_iand rfl rfl (q_tn (z := 5) rfl ?_)
                  refine q_iret rfl rfl trivial ?_
                  refine ⟨_, rfl, ?_⟩
                  refine q_iload_n rfl rfl rfl ?_
                  refine q_isub rfl rfl (q_tn (z := 5) rfl ?_)
                  refine q_mmax (z := 5) rfl om_gp rfl rfl rfl ?_
                  refine q_iret rfl rfl trivial ?_
                  refine ⟨_, rfl, ?_⟩
                  refine q_ist6 rfl rfl rfl rfl ?_
                  refine q_aload_n rfl rfl rfl ?_
                  refine q_getf rfl rfl (by decide) (FW_42 S hW) rfl ?_
                  refine q_iload rfl rfl rfl ?_
                  refine q_nS2 rfl rfl (Or.inr rfl) rfl rfl ⟨rfl, rfl⟩ rfl ?_
                  change PQ _ _ _ mm_X11_says 0 [.long 0, pm_un, .int 21] [] _ _ 0 0 _
                  refine q_lload_n rfl rfl rfl ?_
                  refine q_iload_n rfl rfl rfl ?_
                  refine q_lushr rfl rfl (q_tnl (z := 0) rfl ?_)
                  refine q_lconst rfl rfl ?_
                  refine q_land rfl rfl (q_tnl (z := 0) rfl ?_)
                  refine q_lconst rfl rfl ?_
                  refine q_lcmp rfl rfl (q_tn (z := 0) rfl ?_)
                  refine q_ifeq rfl rfl (fun c910 => ?_) (fun c910 => absurd (by decide) c910)
                  refine q_iconst rfl rfl ?_
                  refine q_iret rfl rfl rfl ?_
                  refine ⟨_, rfl, ?_⟩
                  refine q_ifne rfl rfl (fun c911 => ?_) (fun c911 => absurd (by decide) c911)
                  refine q_iload rfl rfl rfl ?_
                  refine q_iload rfl rfl rfl ?_
                  refine q_icge rfl rfl (fun c912 => ?_) (fun c912 => absurd (by decide) c912)
                  refine q_icc5 (z := 22) rfl rfl rfl rfl rfl ?_
                  refine q_goto rfl ?_
                  refine q_iload rfl rfl rfl ?_
                  refine q_bipush rfl rfl ?_
                  refine q_icge rfl rfl (fun c913 => absurd c913 (by decide)) (fun c913 => ?_)
                  refine q_aload_n rfl rfl rfl ?_
                  refine q_iload_n rfl rfl rfl ?_
                  refine q_iload rfl rfl rfl ?_
                  refine q_nS3 rfl rfl (Or.inl rfl) rfl rfl ⟨rfl, rfl⟩ rfl ?_
                  change PQ _ _ _ mm_X3_greaterPart 0 [.ref 45, .int 31, .int 22, pm_un, pm_un] [] _ _ 0 0 _
                  refine q_iconst rfl rfl ?_
                  refine q_ist3n rfl rfl rfl rfl ?_
                  refine q_iconst rfl rfl ?_
                  refine q_ist4 rfl rfl rfl rfl ?_
                  refine q_iload rfl rfl rfl ?_
                  refine q_aload_n rfl rfl rfl ?_
                  refine q_alen rfl rfl (by decide) rfl rfl (q_tn (z := 5) rfl ?_)
                  refine q_icge rfl rfl (fun c914 => absurd c914 (by decide)) (fun c914 => ?_)
                  refine q_iload_n rfl rfl rfl ?_
                  refine q_iload rfl rfl rfl ?_
                  refine q_iushr rfl rfl (q_tn (z := 31) rfl ?_)
                  refine q_iconst rfl rfl ?_
                  refine q_iand rfl rfl (q_tn (z := 1) rfl ?_)
                  refine q_ifeq rfl rfl (fun c915 => absurd c915 (by decide)) (fun c915 => ?_)
                  refine q_aload_n rfl rfl rfl ?_
                  refine q_iload rfl rfl rfl ?_
                  refine q_lald rfl rfl (by decide) rfl (by decide) (q_tnl (z := 1074791425) rfl ?_)
                  refine q_iload_n rfl rfl rfl ?_
                  refine q_nS2 rfl rfl (Or.inr rfl) rfl rfl ⟨rfl, rfl⟩ rfl ?_
                  change PQ _ _ _ mm_X11_says 0 [.long 1074791425, pm_un, .int 22] [] _ _ 0 0 _
                  refine q_lload_n rfl rfl rfl ?_
                  refine q_iload_n rfl rfl rfl ?_
                  refine q_lushr rfl rfl (q_tnl (z := 256) rfl ?_)
                  refine q_lconst rfl rfl ?_
                  refine q_land rfl rfl (q_tnl (z := 0) rfl ?_)
                  refine q_lconst rfl rfl ?_
                  refine q_lcmp rfl rfl (q_tn (z := 0) rfl ?_)
                  refine q_ifeq rfl rfl (fun c916 => ?_) (fun c916 => absurd (by decide) c916)
                  refine q_iconst rfl rfl ?_
                  refine q_iret rfl rfl rfl ?_
                  refine ⟨_, rfl, ?_⟩
                  refine q_ifeq rfl rfl (fun c917 => ?_) (fun c917 => absurd (by decide) c917)
                  refine q_icc4 (z := 1) rfl rfl rfl rfl rfl ?_
                  refine q_goto rfl ?_
                  refine q_iload rfl rfl rfl ?_
                  refine q_aload_n rfl rfl rfl ?_
                  refine q_alen rfl rfl (by decide) rfl rfl (q_tn (z := 5) rfl ?_)
                  refine q_icge rfl rfl (fun c918 => absurd c918 (by decide)) (fun c918 => ?_)
                  refine q_iload_n rfl rfl rfl ?_
                  refine q_iload rfl rfl rfl ?_
                  refine q_iushr rfl rfl (q_tn (z := 15) rfl ?_)
                  refine q_iconst rfl rfl ?_
                  refine q_iand rfl rfl (q_tn (z := 1) rfl ?_)
                  refine q_ifeq rfl rfl (fun c919 => absurd c919 (by decide)) (fun c919 => ?_)
                  refine q_aload_n rfl rfl rfl ?_
                  refine q_iload rfl rfl rfl ?_
                  refine q_lald rfl rfl (by decide) rfl (by decide) (q_tnl (z := 1074791425) rfl ?_)
                  refine q_iload_n rfl rfl rfl ?_
                  refine q_nS2 rfl rfl (Or.inr rfl) rfl rfl ⟨rfl, rfl⟩ rfl ?_
                  change PQ _ _ _ mm_X11_says 0 [.long 1074791425, pm_un, .int 22] [] _ _ 0 0 _
                  refine q_lload_n rfl rfl rfl ?_
                  refine q_iload_n rfl rfl rfl ?_
                  refine q_lushr rfl rfl (q_tnl (z := 256) rfl ?_)
                  refine q_lconst rfl rfl ?_
                  refine q_land rfl rfl (q_tnl (z := 0) rfl ?_)
                  refine q_lconst rfl rfl ?_
                  refine q_lcmp rfl rfl (q_tn (z := 0) rfl ?_)
                  refine q_ifeq rfl rfl (fun c920 => ?_) (fun c920 => absurd (by decide) c920)
                  refine q_iconst rfl rfl ?_
                  refine q_iret rfl rfl rfl ?_
                  refine ⟨_, rfl, ?_⟩
                  refine q_ifeq rfl rfl (fun c921 => ?_) (fun c921 => absurd (by decide) c921)
                  refine q_icc4 (z := 2) rfl rfl rfl rfl rfl ?_
                  refine q_goto rfl ?_
                  refine q_iload rfl rfl rfl ?_
                  refine q_aload_n rfl rfl rfl ?_
                  refine q_alen rfl rfl (by decide) rfl rfl (q_tn (z := 5) rfl ?_)
                  refine q_icge rfl rfl (fun c922 => absurd c922 (by decide)) (fun c922 => ?_)
                  refine q_iload_n rfl rfl rfl ?_
                  refine q_iload rfl rfl rfl ?_
                  refine q_iushr rfl rfl (q_tn (z := 7) rfl ?_)
                  refine q_iconst rfl rfl ?_
                  refine q_iand rfl rfl (q_tn (z := 1) rfl ?_)
                  refine q_ifeq rfl rfl (fun c923 => absurd c923 (by decide)) (fun c923 => ?_)
                  refine q_aload_n rfl rfl rfl ?_
                  refine q_iload rfl rfl rfl ?_
                  refine q_lald rfl rfl (by decide) rfl (by decide) (q_tnl (z := 1074791425) rfl ?_)
                  refine q_iload_n rfl rfl rfl ?_
                  refine q_nS2 rfl rfl (Or.inr rfl) rfl rfl ⟨rfl, rfl⟩ rfl ?_
                  change PQ _ _ _ mm_X11_says 0 [.long 1074791425, pm_un, .int 22] [] _ _ 0 0 _
                  refine q_lload_n rfl rfl rfl ?_
                  refine q_iload_n rfl rfl rfl ?_
                  refine q_lushr rfl rfl (q_tnl (z := 256) rfl ?_)
                  refine q_lconst rfl rfl ?_
                  refine q_land rfl rfl (q_tnl (z := 0) rfl ?_)
                  refine q_lconst rfl rfl ?_
                  refine q_lcmp rfl rfl (q_tn (z := 0) rfl ?_)
                  refine q_ifeq rfl rfl (fun c924 => ?_) (fun c924 => absurd (by decide) c924)
                  refine q_iconst rfl rfl ?_
                  refine q_iret rfl rfl rfl ?_
                  refine ⟨_, rfl, ?_⟩
                  refine q_ifeq rfl rfl (fun c925 => ?_) (fun c925 => absurd (by decide) c925)
                  refine q_icc4 (z := 3) rfl rfl rfl rfl rfl ?_
                  refine q_goto rfl ?_
                  refine q_iload rfl rfl rfl ?_
                  refine q_aload_n rfl rfl rfl ?_
                  refine q_alen rfl rfl (by decide) rfl rfl (q_tn (z := 5) rfl ?_)
                  refine q_icge rfl rfl (fun c926 => absurd c926 (by decide)) (fun c926 => ?_)
                  refine q_iload_n rfl rfl rfl ?_
                  refine q_iload rfl rfl rfl ?_
                  refine q_iushr rfl rfl (q_tn (z := 3) rfl ?_)
                  refine q_iconst rfl rfl ?_
                  refine q_iand rfl rfl (q_tn (z := 1) rfl ?_)
                  refine q_ifeq rfl rfl (fun c927 => absurd c927 (by decide)) (fun c927 => ?_)
                  refine q_aload_n rfl rfl rfl ?_
                  refine q_iload rfl rfl rfl ?_
                  refine q_lald rfl rfl (by decide) rfl (by decide) (q_tnl (z := 1074791425) rfl ?_)
                  refine q_iload_n rfl rfl rfl ?_
                  refine q_nS2 rfl rfl (Or.inr rfl) rfl rfl ⟨rfl, rfl⟩ rfl ?_
                  change PQ _ _ _ mm_X11_says 0 [.long 1074791425, pm_un, .int 22] [] _ _ 0 0 _
                  refine q_lload_n rfl rfl rfl ?_
                  refine q_iload_n rfl rfl rfl ?_
                  refine q_lushr rfl rfl (q_tnl (z := 256) rfl ?_)
                  refine q_lconst rfl rfl ?_
                  refine q_land rfl rfl (q_tnl (z := 0) rfl ?_)
                  refine q_lconst rfl rfl ?_
                  refine q_lcmp rfl rfl (q_tn (z := 0) rfl ?_)
                  refine q_ifeq rfl rfl (fun c928 => ?_) (fun c928 => absurd (by decide) c928)
                  refine q_iconst rfl rfl ?_
                  refine q_iret rfl rfl rfl ?_
                  refine ⟨_, rfl, ?_⟩
                  refine q_ifeq rfl rfl (fun c929 => ?_) (fun c929 => absurd (by decide) c929)
                  refine q_icc4 (z := 4) rfl rfl rfl rfl rfl ?_
                  refine q_goto rfl ?_
                  refine q_iload rfl rfl rfl ?_
                  refine q_aload_n rfl rfl rfl ?_
                  refine q_alen rfl rfl (by decide) rfl rfl (q_tn (z := 5) rfl ?_)
                  refine q_icge rfl rfl (fun c930 => absurd c930 (by decide)) (fun c930 => ?_)
                  refine q_iload_n rfl rfl rfl ?_
                  refine q_iload rfl rfl rfl ?_
                  refine q_iushr rfl rfl (q_tn (z := 1) rfl ?_)
                  refine q_iconst rfl rfl ?_
                  refine q_iand rfl rfl (q_tn (z := 1) rfl ?_)
                  refine q_ifeq rfl rfl (fun c931 => absurd c931 (by decide)) (fun c931 => ?_)
                  refine q_aload_n rfl rfl rfl ?_
                  refine q_iload rfl rfl rfl ?_
                  refine q_lald rfl rfl (by decide) rfl (by decide) (q_tnl (z := 1074791425) rfl ?_)
                  refine q_iload_n rfl rfl rfl ?_
                  refine q_nS2 rfl rfl (Or.inr rfl) rfl rfl ⟨rfl, rfl⟩ rfl ?_
                  change PQ _ _ _ mm_X11_says 0 [.long 1074791425, pm_un, .int 22] [] _ _ 0 0 _
                  refine q_lload_n rfl rfl rfl ?_
                  refine q_iload_n rfl rfl rfl ?_
                  refine q_lushr rfl rfl (q_tnl (z := 256) rfl ?_)
                  refine q_lconst rfl rfl ?_
                  refine q_land rfl rfl (q_tnl (z := 0) rfl ?_)
                  refine q_lconst rfl rfl ?_
                  refine q_lcmp rfl rfl (q_tn (z := 0) rfl ?_)
                  refine q_ifeq rfl rfl (fun c932 => ?_) (fun c932 => absurd (by decide) c932)
                  refine q_iconst rfl rfl ?_
                  refine q_iret rfl rfl rfl ?_
                  refine ⟨_, rfl, ?_⟩
                  refine q_ifeq rfl rfl (fun c933 => ?_) (fun c933 => absurd (by decide) c933)
                  refine q_icc4 (z := 5) rfl rfl rfl rfl rfl ?_
                  refine q_goto rfl ?_
                  refine q_iload rfl rfl rfl ?_
                  refine q_aload_n rfl rfl rfl ?_
                  refine q_alen rfl rfl (by decide) rfl rfl (q_tn (z := 5) rfl ?_)
                  refine q_icge rfl rfl (fun c934 => ?_) (fun c934 => absurd (by decide) c934)
                  refine q_iload_n rfl rfl rfl ?_
                  refine q_iload_n rfl rfl rfl ?_
                  refine q_nS1 rfl rfl (Or.inl rfl) rfl rfl ⟨rfl, rfl⟩ rfl ?_
                  change PQ _ _ _ mm_J6_bitCount_0f7a4 0 [.int 31] [] _ _ 0 0 _
                  refine q_iload_n rfl rfl rfl ?_
                  refine q_iload_n rfl rfl rfl ?_
                  refine q_iconst rfl rfl ?_
                  refine q_iushr rfl rfl (q_tn (z := 15) rfl ?_)
                  refine q_ldcw rfl rfl ?_
                  refine q_iand rfl rfl (q_tn (z := 5) rfl ?_)
                  refine q_isub rfl rfl (q_tn (z := 26) rfl ?_)
                  refine q_ist0n rfl rfl rfl ?_
                  refine q_iload_n rfl rfl rfl ?_
                  refine q_ldcw rfl rfl ?_
                  refine q_iand rfl rfl (q_tn (z := 18) rfl ?_)
                  refine q_iload_n rfl rfl rfl ?_
                  refine q_iconst rfl rfl ?_
                  refine q_iushr rfl rfl (q_tn (z := 6) rfl ?_)
                  refine q_ldcw rfl rfl ?_
                  refine q_iand rfl rfl (q_tn (z := 2) rfl ?_)
                  refine q_iadd rfl rfl (q_tn (z := 20) rfl ?_)
                  refine q_ist0n rfl rfl rfl ?_
                  refine q_iload_n rfl rfl rfl ?_
                  refine q_iload_n rfl rfl rfl ?_
                  refine q_iconst rfl rfl ?_
                  refine q_iushr rfl rfl (q_tn (z := 1) rfl ?_)
                  refine q_iadd rfl rfl (q_tn (z := 21) rfl ?_)
                  refine q_ldcw rfl rfl ?_
                  refine q_iand rfl rfl (q_tn (z := 5) rfl ?_)
                  refine q_ist0n rfl rfl rfl ?_
                  refine q_iload_n rfl rfl rfl ?_
                  refine q_iload_n rfl rfl rfl ?_
                  refine q_bipush rfl rfl ?_
                  refine q_iushr rfl rfl (q_tn (z := 0) rfl ?_)
                  refine q_iadd rfl rfl (q_tn (z := 5) rfl ?_)
                  refine q_ist0n rfl rfl rfl ?_
                  refine q_iload_n rfl rfl rfl ?_
                  refine q_iload_n rfl rfl rfl ?_
                  refine q_bipush rfl rfl ?_
                  refine q_iushr rfl rfl (q_tn (z := 0) rfl ?_)
                  refine q_iadd rfl rfl (q_tn (z := 5) rfl ?_)
                  refine q_ist0n rfl rfl rfl ?_
                  refine q_iload_n rfl rfl rfl ?_
                  refine q_bipush rfl rfl ?_
                  refine q_iand rfl rfl (q_tn (z := 5) rfl ?_)
                  refine q_iret rfl rfl trivial ?_
                  refine ⟨_, rfl, ?_⟩
                  refine q_iload_n rfl rfl rfl ?_
                  refine q_isub rfl rfl (q_tn (z := 5) rfl ?_)
                  refine q_mmax (z := 5) rfl om_gp rfl rfl rfl ?_
                  refine q_iret rfl rfl trivial ?_
                  refine ⟨_, rfl, ?_⟩
                  refine q_ist6 rfl rfl rfl rfl ?_
                  refine q_aload_n rfl rfl rfl ?_
                  refine q_getf rfl rfl (by decide) (FW_42 S hW) rfl ?_
                  refine q_iload rfl rfl rfl ?_
                  refine q_nS2 rfl rfl (Or.inr rfl) rfl rfl ⟨rfl, rfl⟩ rfl ?_
                  change PQ _ _ _ mm_X11_says 0 [.long 0, pm_un, .int 22] [] _ _ 0 0 _
                  refine q_lload_n rfl rfl rfl ?_
                  refine q_iload_n rfl rfl rfl ?_
                  refine q_lushr rfl rfl (q_tnl (z := 0) rfl ?_)
                  refine q_lconst rfl rfl ?_
                  refine q_land rfl rfl (q_tnl (z := 0) rfl ?_)
                  refine q_lconst rfl rfl ?_
                  refine q_lcmp rfl rfl (q_tn (z := 0) rfl ?_)
                  refine q_ifeq rfl rfl (fun c935 => ?_) (fun c935 => absurd (by decide) c935)
                  refine q_iconst rfl rfl ?_
                  refine q_iret rfl rfl rfl ?_
                  refine ⟨_, rfl, ?_⟩
                  refine q_ifne rfl rfl (fun c936 => ?_) (fun c936 => absurd (by decide) c936)
                  refine q_iload rfl rfl rfl ?_
                  refine q_iload rfl rfl rfl ?_
                  refine q_icge rfl rfl (fun c937 => ?_) (fun c937 => absurd (by decide) c937)
                  refine q_icc5 (z := 23) rfl rfl rfl rfl rfl ?_
                  refine q_goto rfl ?_
                  refine q_iload rfl rfl rfl ?_
                  refine q_bipush rfl rfl ?_
                  refine q_icge rfl rfl (fun c938 => absurd c938 (by decide)) (fun c938 => ?_)
                  refine q_aload_n rfl rfl rfl ?_
                  refine q_iload_n rfl rfl rfl ?_
                  refine q_iload rfl rfl rfl ?_
                  refine q_nS3 rfl rfl (Or.inl rfl) rfl rfl ⟨rfl, rfl⟩ rfl ?_
                  change PQ _ _ _ mm_X3_greaterPart 0 [.ref 45, .int 31, .int 23, pm_un, pm_un] [] _ _ 0 0 _
                  refine q_iconst rfl rfl ?_
                  refine q_ist3n rfl rfl rfl rfl ?_
                  refine q_iconst rfl rfl ?_
                  refine q_ist4 rfl rfl rfl rfl ?_
                  refine q_iload rfl rfl rfl ?_
                  refine q_aload_n rfl rfl rfl ?_
                  refine q_alen rfl rfl (by decide) rfl rfl (q_tn (z := 5) rfl ?_)
                  refine q_icge rfl rfl (fun c939 => absurd c939 (by decide)) (fun c939 => ?_)
                  refine q_iload_n rfl rfl rfl ?_
                  refine q_iload rfl rfl rfl ?_
                  refine q_iushr rfl rfl (q_tn (z := 31) rfl ?_)
                  refine q_iconst rfl rfl ?_
                  refine q_iand rfl rfl (q_tn (z := 1) rfl ?_)
                  refine q_ifeq rfl rfl (fun c940 => absurd c940 (by decide)) (fun c940 => ?_)
                  refine q_aload_n rfl rfl rfl ?_
                  refine q_iload rfl rfl rfl ?_
                  refine q_lald rfl rfl (by decide) rfl (by decide) (q_tnl (z := 1074791425) rfl ?_)
                  refine q_iload_n rfl rfl rfl ?_
                  refine q_nS2 rfl rfl (Or.inr rfl) rfl rfl ⟨rfl, rfl⟩ rfl ?_
                  change PQ _ _ _ mm_X11_says 0 [.long 1074791425, pm_un, .int 23] [] _ _ 0 0 _
                  refine q_lload_n rfl rfl rfl ?_
                  refine q_iload_n rfl rfl rfl ?_
                  refine q_lushr rfl rfl (q_tnl (z := 128) rfl ?_)
                  refine q_lconst rfl rfl ?_
                  refine q_land rfl rfl (q_tnl (z := 0) rfl ?_)
                  refine q_lconst rfl rfl ?_
                  refine q_lcmp rfl rfl (q_tn (z := 0) rfl ?_)
                  refine q_ifeq rfl rfl (fun c941 => ?_) (fun c941 => absurd (by decide) c941)
                  refine q_iconst rfl rfl ?_
                  refine q_iret rfl rfl rfl ?_
                  refine ⟨_, rfl, ?_⟩
                  refine q_ifeq rfl rfl (fun c942 => ?_) (fun c942 => absurd (by decide) c942)
                  refine q_icc4 (z := 1) rfl rfl rfl rfl rfl ?_
                  refine q_goto rfl ?_
                  refine q_iload rfl rfl rfl ?_
                  refine q_aload_n rfl rfl rfl ?_
                  refine q_alen rfl rfl (by decide) rfl rfl (q_tn (z := 5) rfl ?_)
                  refine q_icge rfl rfl (fun c943 => absurd c943 (by decide)) (fun c943 => ?_)
                  refine q_iload_n rfl rfl rfl ?_
                  refine q_iload rfl rfl rfl ?_
                  refine q_iushr rfl rfl (q_tn (z := 15) rfl ?_)
                  refine q_iconst rfl rfl ?_
                  refine q_iand rfl rfl (q_tn (z := 1) rfl ?_)
                  refine q_ifeq rfl rfl (fun c944 => absurd c944 (by decide)) (fun c944 => ?_)
                  refine q_aload_n rfl rfl rfl ?_
                  refine q_iload rfl rfl rfl ?_
                  refine q_lald rfl rfl (by decide) rfl (by decide) (q_tnl (z := 1074791425) rfl ?_)
                  refine q_iload_n rfl rfl rfl ?_
                  refine q_nS2 rfl rfl (Or.inr rfl) rfl rfl ⟨rfl, rfl⟩ rfl ?_
                  change PQ _ _ _ mm_X11_says 0 [.long 1074791425, pm_un, .int 23] [] _ _ 0 0 _
                  refine q_lload_n rfl rfl rfl ?_
                  refine q_iload_n rfl rfl rfl ?_
                  refine q_lushr rfl rfl (q_tnl (z := 128) rfl ?_)
                  refine q_lconst rfl rfl ?_
                  refine q_land rfl rfl (q_tnl (z := 0) rfl ?_)
                  refine q_lconst rfl rfl ?_
                  refine q_lcmp rfl rfl (q_tn (z := 0) rfl ?_)
                  refine q_ifeq rfl rfl (fun c945 => ?_) (fun c945 => absurd (by decide) c945)
                  refine q_iconst rfl rfl ?_
                  refine q_iret rfl rfl rfl ?_
                  refine ⟨_, rfl, ?_⟩
                  refine q_ifeq rfl rfl (fun c946 => ?_) (fun c946 => absurd (by decide) c946)
                  refine q_icc4 (z := 2) rfl rfl rfl rfl rfl ?_
                  refine q_goto rfl ?_
                  refine q_iload rfl rfl rfl ?_
                  refine q_aload_n rfl rfl rfl ?_
                  refine q_alen rfl rfl (by decide) rfl rfl (q_tn (z := 5) rfl ?_)
                  refine q_icge rfl rfl (fun c947 => absurd c947 (by decide)) (fun c947 => ?_)
                  refine q_iload_n rfl rfl rfl ?_
                  refine q_iload rfl rfl rfl ?_
                  refine q_iushr rfl rfl (q_tn (z := 7) rfl ?_)
                  refine q_iconst rfl rfl ?_
                  refine q_iand rfl rfl (q_tn (z := 1) rfl ?_)
                  refine q_ifeq rfl rfl (fun c948 => absurd c948 (by decide)) (fun c948 => ?_)
                  refine q_aload_n rfl rfl rfl ?_
                  refine q_iload rfl rfl rfl ?_
                  refine q_lald rfl rfl (by decide) rfl (by decide) (q_tnl (z := 1074791425) rfl ?_)
                  refine q_iload_n rfl rfl rfl ?_
                  refine q_nS2 rfl rfl (Or.inr rfl) rfl rfl ⟨rfl, rfl⟩ rfl ?_
                  change PQ _ _ _ mm_X11_says 0 [.long 1074791425, pm_un, .int 23] [] _ _ 0 0 _
                  refine q_lload_n rfl rfl rfl ?_
                  refine q_iload_n rfl rfl rfl ?_
                  refine q_lushr rfl rfl (q_tnl (z := 128) rfl ?_)
                  refine q_lconst rfl rfl ?_
                  refine q_land rfl rfl (q_tnl (z := 0) rfl ?_)
                  refine q_lconst rfl rfl ?_
                  refine q_lcmp rfl rfl (q_tn (z := 0) rfl ?_)
                  refine q_ifeq rfl rfl (fun c949 => ?_) (fun c949 => absurd (by decide) c949)
                  refine q_iconst rfl rfl ?_
                  refine q_iret rfl rfl rfl ?_
                  refine ⟨_, rfl, ?_⟩
                  refine q_ifeq rfl rfl (fun c950 => ?_) (fun c950 => absurd (by decide) c950)
                  refine q_icc4 (z := 3) rfl rfl rfl rfl rfl ?_
                  refine q_goto rfl ?_
                  refine q_iload rfl rfl rfl ?_
                  refine q_aload_n rfl rfl rfl ?_
                  refine q_alen rfl rfl (by decide) rfl rfl (q_tn (z := 5) rfl ?_)
                  refine q_icge rfl rfl (fun c951 => absurd c951 (by decide)) (fun c951 => ?_)
                  refine q_iload_n rfl rfl rfl ?_
                  refine q_iload rfl rfl rfl ?_
                  refine q_iushr rfl rfl (q_tn (z := 3) rfl ?_)
                  refine q_iconst rfl rfl ?_
                  refine q_iand rfl rfl (q_tn (z := 1) rfl ?_)
                  refine q_ifeq rfl rfl (fun c952 => absurd c952 (by decide)) (fun c952 => ?_)
                  refine q_aload_n rfl rfl rfl ?_
                  refine q_iload rfl rfl rfl ?_
                  refine q_lald rfl rfl (by decide) rfl (by decide) (q_tnl (z := 1074791425) rfl ?_)
                  refine q_iload_n rfl rfl rfl ?_
                  refine q_nS2 rfl rfl (Or.inr rfl) rfl rfl ⟨rfl, rfl⟩ rfl ?_
                  change PQ _ _ _ mm_X11_says 0 [.long 1074791425, pm_un, .int 23] [] _ _ 0 0 _
                  refine q_lload_n rfl rfl rfl ?_
                  refine q_iload_n rfl rfl rfl ?_
                  refine q_lushr rfl rfl (q_tnl (z := 128) rfl ?_)
                  refine q_lconst rfl rfl ?_
                  refine q_land rfl rfl (q_tnl (z := 0) rfl ?_)
                  refine q_lconst rfl rfl ?_
                  refine q_lcmp rfl rfl (q_tn (z := 0) rfl ?_)
                  refine q_ifeq rfl rfl (fun c953 => ?_) (fun c953 => absurd (by decide) c953)
                  refine q_iconst rfl rfl ?_
                  refine q_iret rfl rfl rfl ?_
                  refine ⟨_, rfl, ?_⟩
                  refine q_ifeq rfl rfl (fun c954 => ?_) (fun c954 => absurd (by decide) c954)
                  refine q_icc4 (z := 4) rfl rfl rfl rfl rfl ?_
                  refine q_goto rfl ?_
                  refine q_iload rfl rfl rfl ?_
                  refine q_aload_n rfl rfl rfl ?_
                  refine q_alen rfl rfl (by decide) rfl rfl (q_tn (z := 5) rfl ?_)
                  refine q_icge rfl rfl (fun c955 => absurd c955 (by decide)) (fun c955 => ?_)
                  refine q_iload_n rfl rfl rfl ?_
                  refine q_iload rfl rfl rfl ?_
                  refine q_iushr rfl rfl (q_tn (z := 1) rfl ?_)
                  refine q_iconst rfl rfl ?_
                  refine q_iand rfl rfl (q_tn (z := 1) rfl ?_)
                  refine q_ifeq rfl rfl (fun c956 => absurd c956 (by decide)) (fun c956 => ?_)
                  refine q_aload_n rfl rfl rfl ?_
                  refine q_iload rfl rfl rfl ?_
                  refine q_lald rfl rfl (by decide) rfl (by decide) (q_tnl (z := 1074791425) rfl ?_)
                  refine q_iload_n rfl rfl rfl ?_
                  refine q_nS2 rfl rfl (Or.inr rfl) rfl rfl ⟨rfl, rfl⟩ rfl ?_
                  change PQ _ _ _ mm_X11_says 0 [.long 1074791425, pm_un, .int 23] [] _ _ 0 0 _
                  refine q_lload_n rfl rfl rfl ?_
                  refine q_iload_n rfl rfl rfl ?_
                  refine q_lushr rfl rfl (q_tnl (z := 128) rfl ?_)
                  refine q_lconst rfl rfl ?_
                  refine q_land rfl rfl (q_tnl (z := 0) rfl ?_)
                  refine q_lconst rfl rfl ?_
                  refine q_lcmp rfl rfl (q_tn (z := 0) rfl ?_)
                  refine q_ifeq rfl rfl (fun c957 => ?_) (fun c957 => absurd (by decide) c957)
                  refine q_iconst rfl rfl ?_
                  refine q_iret rfl rfl rfl ?_
                  refine ⟨_, rfl, ?_⟩
                  refine q_ifeq rfl rfl (fun c958 => ?_) (fun c958 => absurd (by decide) c958)
                  refine q_icc4 (z := 5) rfl rfl rfl rfl rfl ?_
                  refine q_goto rfl ?_
                  refine q_iload rfl rfl rfl ?_
                  refine q_aload_n rfl rfl rfl ?_
                  refine q_alen rfl rfl (by decide) rfl rfl (q_tn (z := 5) rfl ?_)
                  refine q_icge rfl rfl (fun c959 => ?_) (fun c959 => absurd (by decide) c959)
                  refine q_iload_n rfl rfl rfl ?_
                  refine q_iload_n rfl rfl rfl ?_
                  refine q_nS1 rfl rfl (Or.inl rfl) rfl rfl ⟨rfl, rfl⟩ rfl ?_
                  change PQ _ _ _ mm_J6_bitCount_0f7a4 0 [.int 31] [] _ _ 0 0 _
                  refine q_iload_n rfl rfl rfl ?_
                  refine q_iload_n rfl rfl rfl ?_
                  refine q_iconst rfl rfl ?_
                  refine q_iushr rfl rfl (q_tn (z := 15) rfl ?_)
                  refine q_ldcw rfl rfl ?_
                  refine q_iand rfl rfl (q_tn (z := 5) rfl ?_)
                  refine q_isub rfl rfl (q_tn (z := 26) rfl ?_)
                  refine q_ist0n rfl rfl rfl ?_
                  refine q_iload_n rfl rfl rfl ?_
                  refine q_ldcw rfl rfl ?_
                  refine q_iand rfl rfl (q_tn (z := 18) rfl ?_)
                  refine q_iload_n rfl rfl rfl ?_
                  refine q_iconst rfl rfl ?_
                  refine q_iushr rfl rfl (q_tn (z := 6) rfl ?_)
                  refine q_ldcw rfl rfl ?_
                  refine q_iand rfl rfl (q_tn (z := 2) rfl ?_)
                  refine q_iadd rfl rfl (q_tn (z := 20) rfl ?_)
                  refine q_ist0n rfl rfl rfl ?_
                  refine q_iload_n rfl rfl rfl ?_
                  refine q_iload_n rfl rfl rfl ?_
                  refine q_iconst rfl rfl ?_
                  refine q_iushr rfl rfl (q_tn (z := 1) rfl ?_)
                  refine q_iadd rfl rfl (q_tn (z := 21) rfl ?_)
                  refine q_ldcw rfl rfl ?_
                  refine q_iand rfl rfl (q_tn (z := 5) rfl ?_)
                  refine q_ist0n rfl rfl rfl ?_
                  refine q_iload_n rfl rfl rfl ?_
                  refine q_iload_n rfl rfl rfl ?_
                  refine q_bipush rfl rfl ?_
                  refine q_iushr rfl rfl (q_tn (z := 0) rfl ?_)
                  refine q_iadd rfl rfl (q_tn (z := 5) rfl ?_)
                  refine q_ist0n rfl rfl rfl ?_
                  refine q_iload_n rfl rfl rfl ?_
                  refine q_iload_n rfl rfl rfl ?_
                  refine q_bipush rfl rfl ?_
                  refine q_iushr rfl rfl (q_tn (z := 0) rfl ?_)
                  refine q_iadd rfl rfl (q_tn (z := 5) rfl ?_)
                  refine q_ist0n rfl rfl rfl ?_
                  refine q_iload_n rfl rfl rfl ?_
                  refine q_bipush rfl rfl ?_
                  refine q_iand rfl rfl (q_tn (z := 5) rfl ?_)
                  refine q_iret rfl rfl trivial ?_
                  refine ⟨_, rfl, ?_⟩
                  refine q_iload_n rfl rfl rfl ?_
                  refine q_isub rfl rfl (q_tn (z := 5) rfl ?_)
                  refine q_mmax (z := 5) rfl om_gp rfl rfl rfl ?_
                  refine q_iret rfl rfl trivial ?_
                  refine ⟨_, rfl, ?_⟩
                  refine q_ist6 rfl rfl rfl rfl ?_
                  refine q_aload_n rfl rfl rfl ?_
                  refine q_getf rfl rfl (by decide) (FW_42 S hW) rfl ?_
                  refine q_iload rfl rfl rfl ?_
                  refine q_nS2 rfl rfl (Or.inr rfl) rfl rfl ⟨rfl, rfl⟩ rfl ?_
                  change PQ _ _ _ mm_X11_says 0 [.long 0, pm_un, .int 23] [] _ _ 0 0 _
                  refine q_lload_n rfl rfl rfl ?_
                  refine q_iload_n rfl rfl rfl ?_
                  refine q_lushr rfl rfl (q_tnl (z := 0) rfl ?_)
                  refine q_lconst rfl rfl ?_
                  refine q_land rfl rfl (q_tnl (z := 0) rfl ?_)
                  refine q_lconst rfl rfl ?_
                  refine q_lcmp rfl rfl (q_tn (z := 0) rfl ?_)
                  refine q_ifeq rfl rfl (fun c960 => ?_) (fun c960 => absurd (by decide) c960)
                  refine q_iconst rfl rfl ?_
                  refine q_iret rfl rfl rfl ?_
                  refine ⟨_, rfl, ?_⟩
                  refine q_ifne rfl rfl (fun c961 => ?_) (fun c961 => absurd (by decide) c961)
                  refine q_iload rfl rfl rfl ?_
                  refine q_iload rfl rfl rfl ?_
                  refine q_icge rfl rfl (fun c962 => ?_) (fun c962 => absurd (by decide) c962)
                  refine q_icc5 (z := 24) rfl rfl rfl rfl rfl ?_
                  refine q_goto rfl ?_
                  refine q_iload rfl rfl rfl ?_
                  refine q_bipush rfl rfl ?_
                  refine q_icge rfl rfl (fun c963 => absurd c963 (by decide)) (fun c963 => ?_)
                  refine q_aload_n rfl rfl rfl ?_
                  refine q_iload_n rfl rfl rfl ?_
                  refine q_iload rfl rfl rfl ?_
                  refine q_nS3 rfl rfl (Or.inl rfl) rfl rfl ⟨rfl, rfl⟩ rfl ?_
                  change PQ _ _ _ mm_X3_greaterPart 0 [.ref 45, .int 31, .int 24, pm_un, pm_un] [] _ _ 0 0 _
                  refine q_iconst rfl rfl ?_
                  refine q_ist3n rfl rfl rfl rfl ?_
                  refine q_iconst rfl rfl ?_
                  refine q_ist4 rfl rfl rfl rfl ?_
                  refine q_iload rfl rfl rfl ?_
                  refine q_aload_n rfl rfl rfl ?_
                  refine q_alen rfl rfl (by decide) rfl rfl (q_tn (z := 5) rfl ?_)
                  refine q_icge rfl rfl (fun c964 => absurd c964 (by decide)) (fun c964 => ?_)
                  refine q_iload_n rfl rfl rfl ?_
                  refine q_iload rfl rfl rfl ?_
                  refine q_iushr rfl rfl (q_tn (z := 31) rfl ?_)
                  refine q_iconst rfl rfl ?_
                  refine q_iand rfl rfl (q_tn (z := 1) rfl ?_)
                  refine q_ifeq rfl rfl (fun c965 => absurd c965 (by decide)) (fun c965 => ?_)
                  refine q_aload_n rfl rfl rfl ?_
                  refine q_iload rfl rfl rfl ?_
                  refine q_lald rfl rfl (by decide) rfl (by decide) (q_tnl (z := 1074791425) rfl ?_)
                  refine q_iload_n rfl rfl rfl ?_
                  refine q_nS2 rfl rfl (Or.inr rfl) rfl rfl ⟨rfl, rfl⟩ rfl ?_
                  change PQ _ _ _ mm_X11_says 0 [.long 1074791425, pm_un, .int 24] [] _ _ 0 0 _
                  refine q_lload_n rfl rfl rfl ?_
                  refine q_iload_n rfl rfl rfl ?_
                  refine q_lushr rfl rfl (q_tnl (z := 64) rfl ?_)
                  refine q_lconst rfl rfl ?_
                  refine q_land rfl rfl (q_tnl (z := 0) rfl ?_)
                  refine q_lconst rfl rfl ?_
                  refine q_lcmp rfl rfl (q_tn (z := 0) rfl ?_)
                  refine q_ifeq rfl rfl (fun c966 => ?_) (fun c966 => absurd (by decide) c966)
                  refine q_iconst rfl rfl ?_
                  refine q_iret rfl rfl rfl ?_
                  refine ⟨_, rfl, ?_⟩
                  refine q_ifeq rfl rfl (fun c967 => ?_) (fun c967 => absurd (by decide) c967)
                  refine q_icc4 (z := 1) rfl rfl rfl rfl rfl ?_
                  refine q_goto rfl ?_
                  refine q_iload rfl rfl rfl ?_
                  refine q_aload_n rfl rfl rfl ?_
                  refine q_alen rfl rfl (by decide) rfl rfl (q_tn (z := 5) rfl ?_)
                  refine q_icge rfl rfl (fun c968 => absurd c968 (by decide)) (fun c968 => ?_)
                  refine q_iload_n rfl rfl rfl ?_
                  refine q_iload rfl rfl rfl ?_
                  refine q_iushr rfl rfl (q_tn (z := 15) rfl ?_)
                  refine q_iconst rfl rfl ?_
                  refine q_iand rfl rfl (q_tn (z := 1) rfl ?_)
                  refine q_ifeq rfl rfl (fun c969 => absurd c969 (by decide)) (fun c969 => ?_)
                  refine q_aload_n rfl rfl rfl ?_
                  refine q_iload rfl rfl rfl ?_
                  refine q_lald rfl rfl (by decide) rfl (by decide) (q_tnl (z := 1074791425) rfl ?_)
                  refine q_iload_n rfl rfl rfl ?_
                  refine q_nS2 rfl rfl (Or.inr rfl) rfl rfl ⟨rfl, rfl⟩ rfl ?_
                  change PQ _ _ _ mm_X11_says 0 [.long 1074791425, pm_un, .int 24] [] _ _ 0 0 _
                  refine q_lload_n rfl rfl rfl ?_
                  refine q_iload_n rfl rfl rfl ?_
                  refine q_lushr rfl rfl (q_tnl (z := 64) rfl ?_)
                  refine q_lconst rfl rfl ?_
                  refine q_land rfl rfl (q_tnl (z := 0) rfl ?_)
                  refine q_lconst rfl rfl ?_
                  refine q_lcmp rfl rfl (q_tn (z := 0) rfl ?_)
                  refine q_ifeq rfl rfl (fun c970 => ?_) (fun c970 => absurd (by decide) c970)
                  refine q_iconst rfl rfl ?_
                  refine q_iret rfl rfl rfl ?_
                  refine ⟨_, rfl, ?_⟩
                  refine q_ifeq rfl rfl (fun c971 => ?_) (fun c971 => absurd (by decide) c971)
                  as_aux_lemma =>
                    refine q_icc4 (z := 2) rfl rfl rfl rfl rfl ?_
                    refine q_goto rfl ?_
                    refine q_iload rfl rfl rfl ?_
                    refine q_aload_n rfl rfl rfl ?_
                    refine q_alen rfl rfl (by decide) rfl rfl (q_tn (z := 5) rfl ?_)
                    refine q_icge rfl rfl (fun c972 => absurd c972 (by decide)) (fun c972 => ?_)
                    refine q_iload_n rfl rfl rfl ?_
                    refine q_iload rfl rfl rfl ?_
                    refine q_iushr rfl rfl (q_tn (z := 7) rfl ?_)
                    refine q_iconst rfl rfl ?_
                    refine q_iand rfl rfl (q_tn (z := 1) rfl ?_)
                    refine q_ifeq rfl rfl (fun c973 => absurd c973 (by decide)) (fun c973 => ?_)
                    refine q_aload_n rfl rfl rfl ?_
                    refine q_iload rfl rfl rfl ?_
                    refine q_lald rfl rfl (by decide) rfl (by decide) (q_tnl (z := 1074791425) rfl ?_)
                    refine q_iload_n rfl rfl rfl ?_
                    refine q_nS2 rfl rfl (Or.inr rfl) rfl rfl ⟨rfl, rfl⟩ rfl ?_
                    change PQ _ _ _ mm_X11_says 0 [.long 1074791425, pm_un, .int 24] [] _ _ 0 0 _
                    refine q_lload_n rfl rfl rfl ?_
                    refine q_iload_n rfl rfl rfl ?_
                    refine q_lushr rfl rfl (q_tnl (z := 64) rfl ?_)
                    refine q_lconst rfl rfl ?_
                    refine q_land rfl rfl (q_tnl (z := 0) rfl ?_)
                    refine q_lconst rfl rfl ?_
                    refine q_lcmp rfl rfl (q_tn (z := 0) rfl ?_)
                    refine q_ifeq rfl rfl (fun c974 => ?_) (fun c974 => absurd (by decide) c974)
                    refine q_iconst rfl rfl ?_
                    refine q_iret rfl rfl rfl ?_
                    refine ⟨_, rfl, ?_⟩
                    refine q_ifeq rfl rfl (fun c975 => ?_) (fun c975 => absurd (by decide) c975)
                    refine q_icc4 (z := 3) rfl rfl rfl rfl rfl ?_
                    refine q_goto rfl ?_
                    refine q_iload rfl rfl rfl ?_
                    refine q_aload_n rfl rfl rfl ?_
                    refine q_alen rfl rfl (by decide) rfl rfl (q_tn (z := 5) rfl ?_)
                    refine q_icge rfl rfl (fun c976 => absurd c976 (by decide)) (fun c976 => ?_)
                    refine q_iload_n rfl rfl rfl ?_
                    refine q_iload rfl rfl rfl ?_
                    refine q_iushr rfl rfl (q_tn (z := 3) rfl ?_)
                    refine q_iconst rfl rfl ?_
                    refine q_iand rfl rfl (q_tn (z := 1) rfl ?_)
                    refine q_ifeq rfl rfl (fun c977 => absurd c977 (by decide)) (fun c977 => ?_)
                    refine q_aload_n rfl rfl rfl ?_
                    refine q_iload rfl rfl rfl ?_
                    refine q_lald rfl rfl (by decide) rfl (by decide) (q_tnl (z := 1074791425) rfl ?_)
                    refine q_iload_n rfl rfl rfl ?_
                    refine q_nS2 rfl rfl (Or.inr rfl) rfl rfl ⟨rfl, rfl⟩ rfl ?_
                    change PQ _ _ _ mm_X11_says 0 [.long 1074791425, pm_un, .int 24] [] _ _ 0 0 _
                    refine q_lload_n rfl rfl rfl ?_
                    refine q_iload_n rfl rfl rfl ?_
                    refine q_lushr rfl rfl (q_tnl (z := 64) rfl ?_)
                    refine q_lconst rfl rfl ?_
                    refine q_land rfl rfl (q_tnl (z := 0) rfl ?_)
                    refine q_lconst rfl rfl ?_
                    refine q_lcmp rfl rfl (q_tn (z := 0) rfl ?_)
                    refine q_ifeq rfl rfl (fun c978 => ?_) (fun c978 => absurd (by decide) c978)
                    refine q_iconst rfl rfl ?_
                    refine q_iret rfl rfl rfl ?_
                    refine ⟨_, rfl, ?_⟩
                    refine q_ifeq rfl rfl (fun c979 => ?_) (fun c979 => absurd (by decide) c979)
                    refine q_icc4 (z := 4) rfl rfl rfl rfl rfl ?_
                    refine q_goto rfl ?_
                    refine q_iload rfl rfl rfl ?_
                    refine q_aload_n rfl rfl rfl ?_
                    refine q_alen rfl rfl (by decide) rfl rfl (q_tn (z := 5) rfl ?_)
                    refine q_icge rfl rfl (fun c980 => absurd c980 (by decide)) (fun c980 => ?_)
                    refine q_iload_n rfl rfl rfl ?_
                    refine q_iload rfl rfl rfl ?_
                    refine q_iushr rfl rfl (q_tn (z := 1) rfl ?_)
                    refine q_iconst rfl rfl ?_
                    refine q_iand rfl rfl (q_tn (z := 1) rfl ?_)
                    refine q_ifeq rfl rfl (fun c981 => absurd c981 (by decide)) (fun c981 => ?_)
                    refine q_aload_n rfl rfl rfl ?_
                    refine q_iload rfl rfl rfl ?_
                    refine q_lald rfl rfl (by decide) rfl (by decide) (q_tnl (z := 1074791425) rfl ?_)
                    refine q_iload_n rfl rfl rfl ?_
                    refine q_nS2 rfl rfl (Or.inr rfl) rfl rfl ⟨rfl, rfl⟩ rfl ?_
                    change PQ _ _ _ mm_X11_says 0 [.long 1074791425, pm_un, .int 24] [] _ _ 0 0 _
                    refine q_lload_n rfl rfl rfl ?_
                    refine q_iload_n rfl rfl rfl ?_
                    refine q_lushr rfl rfl (q_tnl (z := 64) rfl ?_)
                    refine q_lconst rfl rfl ?_
                    refine q_land rfl rfl (q_tnl (z := 0) rfl ?_)
                    refine q_lconst rfl rfl ?_
                    refine q_lcmp rfl rfl (q_tn (z := 0) rfl ?_)
                    refine q_ifeq rfl rfl (fun c982 => ?_) (fun c982 => absurd (by decide) c982)
                    refine q_iconst rfl rfl ?_
                    refine q_iret rfl rfl rfl ?_
                    refine ⟨_, rfl, ?_⟩
                    refine q_ifeq rfl rfl (fun c983 => ?_) (fun c983 => absurd (by decide) c983)
                    refine q_icc4 (z := 5) rfl rfl rfl rfl rfl ?_
                    refine q_goto rfl ?_
                    refine q_iload rfl rfl rfl ?_
                    refine q_aload_n rfl rfl rfl ?_
                    refine q_alen rfl rfl (by decide) rfl rfl (q_tn (z := 5) rfl ?_)
                    refine q_icge rfl rfl (fun c984 => ?_) (fun c984 => absurd (by decide) c984)
                    refine q_iload_n rfl rfl rfl ?_
                    refine q_iload_n rfl rfl rfl ?_
                    refine q_nS1 rfl rfl (Or.inl rfl) rfl rfl ⟨rfl, rfl⟩ rfl ?_
                    change PQ _ _ _ mm_J6_bitCount_0f7a4 0 [.int 31] [] _ _ 0 0 _
                    refine q_iload_n rfl rfl rfl ?_
                    refine q_iload_n rfl rfl rfl ?_
                    refine q_iconst rfl rfl ?_
                    refine q_iushr rfl rfl (q_tn (z := 15) rfl ?_)
                    refine q_ldcw rfl rfl ?_
                    refine q_iand rfl rfl (q_tn (z := 5) rfl ?_)
                    refine q_isub rfl rfl (q_tn (z := 26) rfl ?_)
                    refine q_ist0n rfl rfl rfl ?_
                    refine q_iload_n rfl rfl rfl ?_
                    refine q_ldcw rfl rfl ?_
                    refine q_iand rfl rfl (q_tn (z := 18) rfl ?_)
                    refine q_iload_n rfl rfl rfl ?_
                    refine q_iconst rfl rfl ?_
                    refine q_iushr rfl rfl (q_tn (z := 6) rfl ?_)
                    refine q_ldcw rfl rfl ?_
                    refine q_iand rfl rfl (q_tn (z := 2) rfl ?_)
                    refine q_iadd rfl rfl (q_tn (z := 20) rfl ?_)
                    refine q_ist0n rfl rfl rfl ?_
                    refine q_iload_n rfl rfl rfl ?_
                    refine q_iload_n rfl rfl rfl ?_
                    refine q_iconst rfl rfl ?_
                    refine q_iushr rfl rfl (q_tn (z := 1) rfl ?_)
                    refine q_iadd rfl rfl (q_tn (z := 21) rfl ?_)
                    refine q_ldcw rfl rfl ?_
                    refine q_iand rfl rfl (q_tn (z := 5) rfl ?_)
                    refine q_ist0n rfl rfl rfl ?_
                    refine q_iload_n rfl rfl rfl ?_
                    refine q_iload_n rfl rfl rfl ?_
                    refine q_bipush rfl rfl ?_
                    refine q_iushr rfl rfl (q_tn (z := 0) rfl ?_)
                    refine q_iadd rfl rfl (q_tn (z := 5) rfl ?_)
                    refine q_ist0n rfl rfl rfl ?_
                    refine q_iload_n rfl rfl rfl ?_
                    refine q_iload_n rfl rfl rfl ?_
                    refine q_bipush rfl rfl ?_
                    refine q_iushr rfl rfl (q_tn (z := 0) rfl ?_)
                    refine q_iadd rfl rfl (q_tn (z := 5) rfl ?_)
                    refine q_ist0n rfl rfl rfl ?_
                    refine q_iload_n rfl rfl rfl ?_
                    refine q_bipush rfl rfl ?_
                    refine q_iand rfl rfl (q_tn (z := 5) rfl ?_)
                    refine q_iret rfl rfl trivial ?_
                    refine ⟨_, rfl, ?_⟩
                    refine q_iload_n rfl rfl rfl ?_
                    refine q_isub rfl rfl (q_tn (z := 5) rfl ?_)
                    refine q_mmax (z := 5) rfl om_gp rfl rfl rfl ?_
                    refine q_iret rfl rfl trivial ?_
                    refine ⟨_, rfl, ?_⟩
                    refine q_ist6 rfl rfl rfl rfl ?_
                    refine q_aload_n rfl rfl rfl ?_
                    refine q_getf rfl rfl (by decide) (FW_42 S hW) rfl ?_
                    refine q_iload rfl rfl rfl ?_
                    refine q_nS2 rfl rfl (Or.inr rfl) rfl rfl ⟨rfl, rfl⟩ rfl ?_
                    change PQ _ _ _ mm_X11_says 0 [.long 0, pm_un, .int 24] [] _ _ 0 0 _
                    refine q_lload_n rfl rfl rfl ?_
                    refine q_iload_n rfl rfl rfl ?_
                    refine q_lushr rfl rfl (q_tnl (z := 0) rfl ?_)
                    refine q_lconst rfl rfl ?_
                    refine q_land rfl rfl (q_tnl (z := 0) rfl ?_)
                    refine q_lconst rfl rfl ?_
                    refine q_lcmp rfl rfl (q_tn (z := 0) rfl ?_)
                    refine q_ifeq rfl rfl (fun c985 => ?_) (fun c985 => absurd (by decide) c985)
                    refine q_iconst rfl rfl ?_
                    refine q_iret rfl rfl rfl ?_
                    refine ⟨_, rfl, ?_⟩
                    refine q_ifne rfl rfl (fun c986 => ?_) (fun c986 => absurd (by decide) c986)
                    refine q_iload rfl rfl rfl ?_
                    refine q_iload rfl rfl rfl ?_
                    refine q_icge rfl rfl (fun c987 => ?_) (fun c987 => absurd (by decide) c987)
                    refine q_icc5 (z := 25) rfl rfl rfl rfl rfl ?_
                    refine q_goto rfl ?_
                    refine q_iload rfl rfl rfl ?_
                    refine q_bipush rfl rfl ?_
                    refine q_icge rfl rfl (fun c988 => absurd c988 (by decide)) (fun c988 => ?_)
                    refine q_aload_n rfl rfl rfl ?_
                    refine q_iload_n rfl rfl rfl ?_
                    refine q_iload rfl rfl rfl ?_
                    refine q_nS3 rfl rfl (Or.inl rfl) rfl rfl ⟨rfl, rfl⟩ rfl ?_
                    change PQ _ _ _ mm_X3_greaterPart 0 [.ref 45, .int 31, .int 25, pm_un, pm_un] [] _ _ 0 0 _
                    refine q_iconst rfl rfl ?_
                    refine q_ist3n rfl rfl rfl rfl ?_
                    refine q_iconst rfl rfl ?_
                    refine q_ist4 rfl rfl rfl rfl ?_
                    refine q_iload rfl rfl rfl ?_
                    refine q_aload_n rfl rfl rfl ?_
                    refine q_alen rfl rfl (by decide) rfl rfl (q_tn (z := 5) rfl ?_)
                    refine q_icge rfl rfl (fun c989 => absurd c989 (by decide)) (fun c989 => ?_)
                    refine q_iload_n rfl rfl rfl ?_
                    refine q_iload rfl rfl rfl ?_
                    refine q_iushr rfl rfl (q_tn (z := 31) rfl ?_)
                    refine q_iconst rfl rfl ?_
                    refine q_iand rfl rfl (q_tn (z := 1) rfl ?_)
                    refine q_ifeq rfl rfl (fun c990 => absurd c990 (by decide)) (fun c990 => ?_)
                    refine q_aload_n rfl rfl rfl ?_
                    refine q_iload rfl rfl rfl ?_
                    refine q_lald rfl rfl (by decide) rfl (by decide) (q_tnl (z := 1074791425) rfl ?_)
                    refine q_iload_n rfl rfl rfl ?_
                    refine q_nS2 rfl rfl (Or.inr rfl) rfl rfl ⟨rfl, rfl⟩ rfl ?_
                    change PQ _ _ _ mm_X11_says 0 [.long 1074791425, pm_un, .int 25] [] _ _ 0 0 _
                    refine q_lload_n rfl rfl rfl ?_
                    refine q_iload_n rfl rfl rfl ?_
                    refine q_lushr rfl rfl (q_tnl (z := 32) rfl ?_)
                    refine q_lconst rfl rfl ?_
                    refine q_land rfl rfl (q_tnl (z := 0) rfl ?_)
                    refine q_lconst rfl rfl ?_
                    refine q_lcmp rfl rfl (q_tn (z := 0) rfl ?_)
                    refine q_ifeq rfl rfl (fun c991 => ?_) (fun c991 => absurd (by decide) c991)
                    refine q_iconst rfl rfl ?_
                    refine q_iret rfl rfl rfl ?_
                    refine ⟨_, rfl, ?_⟩
                    refine q_ifeq rfl rfl (fun c992 => ?_) (fun c992 => absurd (by decide) c992)
                    refine q_icc4 (z := 1) rfl rfl rfl rfl rfl ?_
                    refine q_goto rfl ?_
                    refine q_iload rfl rfl rfl ?_
                    refine q_aload_n rfl rfl rfl ?_
                    refine q_alen rfl rfl (by decide) rfl rfl (q_tn (z := 5) rfl ?_)
                    refine q_icge rfl rfl (fun c993 => absurd c993 (by decide)) (fun c993 => ?_)
                    refine q_iload_n rfl rfl rfl ?_
                    refine q_iload rfl rfl rfl ?_
                    refine q_iushr rfl rfl (q_tn (z := 15) rfl ?_)
                    refine q_iconst rfl rfl ?_
                    refine q_iand rfl rfl (q_tn (z := 1) rfl ?_)
                    refine q_ifeq rfl rfl (fun c994 => absurd c994 (by decide)) (fun c994 => ?_)
                    refine q_aload_n rfl rfl rfl ?_
                    refine q_iload rfl rfl rfl ?_
                    refine q_lald rfl rfl (by decide) rfl (by decide) (q_tnl (z := 1074791425) rfl ?_)
                    refine q_iload_n rfl rfl rfl ?_
                    refine q_nS2 rfl rfl (Or.inr rfl) rfl rfl ⟨rfl, rfl⟩ rfl ?_
                    change PQ _ _ _ mm_X11_says 0 [.long 1074791425, pm_un, .int 25] [] _ _ 0 0 _
                    refine q_lload_n rfl rfl rfl ?_
                    refine q_iload_n rfl rfl rfl ?_
                    refine q_lushr rfl rfl (q_tnl (z := 32) rfl ?_)
                    refine q_lconst rfl rfl ?_
                    refine q_land rfl rfl (q_tnl (z := 0) rfl ?_)
                    refine q_lconst rfl rfl ?_
                    refine q_lcmp rfl rfl (q_tn (z := 0) rfl ?_)
                    refine q_ifeq rfl rfl (fun c995 => ?_) (fun c995 => absurd (by decide) c995)
                    refine q_iconst rfl rfl ?_
                    refine q_iret rfl rfl rfl ?_
                    refine ⟨_, rfl, ?_⟩
                    refine q_ifeq rfl rfl (fun c996 => ?_) (fun c996 => absurd (by decide) c996)
                    refine q_icc4 (z := 2) rfl rfl rfl rfl rfl ?_
                    refine q_goto rfl ?_
                    refine q_iload rfl rfl rfl ?_
                    refine q_aload_n rfl rfl rfl ?_
                    refine q_alen rfl rfl (by decide) rfl rfl (q_tn (z := 5) rfl ?_)
                    refine q_icge rfl rfl (fun c997 => absurd c997 (by decide)) (fun c997 => ?_)
                    refine q_iload_n rfl rfl rfl ?_
                    refine q_iload rfl rfl rfl ?_
                    refine q_iushr rfl rfl (q_tn (z := 7) rfl ?_)
                    refine q_iconst rfl rfl ?_
                    refine q_iand rfl rfl (q_tn (z := 1) rfl ?_)
                    refine q_ifeq rfl rfl (fun c998 => absurd c998 (by decide)) (fun c998 => ?_)
                    refine q_aload_n rfl rfl rfl ?_
                    refine q_iload rfl rfl rfl ?_
                    refine q_lald rfl rfl (by decide) rfl (by decide) (q_tnl (z := 1074791425) rfl ?_)
                    refine q_iload_n rfl rfl rfl ?_
                    refine q_nS2 rfl rfl (Or.inr rfl) rfl rfl ⟨rfl, rfl⟩ rfl ?_
                    change PQ _ _ _ mm_X11_says 0 [.long 1074791425, pm_un, .int 25] [] _ _ 0 0 _
                    refine q_lload_n rfl rfl rfl ?_
                    refine q_iload_n rfl rfl rfl ?_
                    refine q_lushr rfl rfl (q_tnl (z := 32) rfl ?_)
                    refine q_lconst rfl rfl ?_
                    refine q_land rfl rfl (q_tnl (z := 0) rfl ?_)
                    refine q_lconst rfl rfl ?_
                    refine q_lcmp rfl rfl (q_tn (z := 0) rfl ?_)
                    refine q_ifeq rfl rfl (fun c999 => ?_) (fun c999 => absurd (by decide) c999)
                    refine q_iconst rfl rfl ?_
                    refine q_iret rfl rfl rfl ?_
                    refine ⟨_, rfl, ?_⟩
                    refine q_ifeq rfl rfl (fun c1000 => ?_) (fun c1000 => absurd (by decide) c1000)
                    refine q_icc4 (z := 3) rfl rfl rfl rfl rfl ?_
                    refine q_goto rfl ?_
                    refine q_iload rfl rfl rfl ?_
                    refine q_aload_n rfl rfl rfl ?_
                    refine q_alen rfl rfl (by decide) rfl rfl (q_tn (z := 5) rfl ?_)
                    refine q_icge rfl rfl (fun c1001 => absurd c1001 (by decide)) (fun c1001 => ?_)
                    refine q_iload_n rfl rfl rfl ?_
                    refine q_iload rfl rfl rfl ?_
                    refine q_iushr rfl rfl (q_tn (z := 3) rfl ?_)
                    refine q_iconst rfl rfl ?_
                    refine q_iand rfl rfl (q_tn (z := 1) rfl ?_)
                    refine q_ifeq rfl rfl (fun c1002 => absurd c1002 (by decide)) (fun c1002 => ?_)
                    refine q_aload_n rfl rfl rfl ?_
                    refine q_iload rfl rfl rfl ?_
                    refine q_lald rfl rfl (by decide) rfl (by decide) (q_tnl (z := 1074791425) rfl ?_)
                    refine q_iload_n rfl rfl rfl ?_
                    refine q_nS2 rfl rfl (Or.inr rfl) rfl rfl ⟨rfl, rfl⟩ rfl ?_
                    change PQ _ _ _ mm_X11_says 0 [.long 1074791425, pm_un, .int 25] [] _ _ 0 0 _
                    refine q_lload_n rfl rfl rfl ?_
                    refine q_iload_n rfl rfl rfl ?_
                    refine q_lushr rfl rfl (q_tnl (z := 32) rfl ?_)
                    refine q_lconst rfl rfl ?_
                    refine q_land rfl rfl (q_tnl (z := 0) rfl ?_)
                    refine q_lconst rfl rfl ?_
                    refine q_lcmp rfl rfl (q_tn (z := 0) rfl ?_)
                    refine q_ifeq rfl rfl (fun c1003 => ?_) (fun c1003 => absurd (by decide) c1003)
                    refine q_iconst rfl rfl ?_
                    refine q_iret rfl rfl rfl ?_
                    refine ⟨_, rfl, ?_⟩
                    refine q_ifeq rfl rfl (fun c1004 => ?_) (fun c1004 => absurd (by decide) c1004)
                    refine q_icc4 (z := 4) rfl rfl rfl rfl rfl ?_
                    refine q_goto rfl ?_
                    refine q_iload rfl rfl rfl ?_
                    refine q_aload_n rfl rfl rfl ?_
                    refine q_alen rfl rfl (by decide) rfl rfl (q_tn (z := 5) rfl ?_)
                    refine q_icge rfl rfl (fun c1005 => absurd c1005 (by decide)) (fun c1005 => ?_)
                    refine q_iload_n rfl rfl rfl ?_
                    refine q_iload rfl rfl rfl ?_
                    refine q_iushr rfl rfl (q_tn (z := 1) rfl ?_)
                    refine q_iconst rfl rfl ?_
                    refine q_iand rfl rfl (q_tn (z := 1) rfl ?_)
                    refine q_ifeq rfl rfl (fun c1006 => absurd c1006 (by decide)) (fun c1006 => ?_)
                    refine q_aload_n rfl rfl rfl ?_
                    refine q_iload rfl rfl rfl ?_
                    refine q_lald rfl rfl (by decide) rfl (by decide) (q_tnl (z := 1074791425) rfl ?_)
                    refine q_iload_n rfl rfl rfl ?_
                    refine q_nS2 rfl rfl (Or.inr rfl) rfl rfl ⟨rfl, rfl⟩ rfl ?_
                    change PQ _ _ _ mm_X11_says 0 [.long 1074791425, pm_un, .int 25] [] _ _ 0 0 _
                    refine q_lload_n rfl rfl rfl ?_
                    refine q_iload_n rfl rfl rfl ?_
                    refine q_lushr rfl rfl (q_tnl (z := 32) rfl ?_)
                    refine q_lconst rfl rfl ?_
                    refine q_land rfl rfl (q_tnl (z := 0) rfl ?_)
                    refine q_lconst rfl rfl ?_
                    refine q_lcmp rfl rfl (q_tn (z := 0) rfl ?_)
                    refine q_ifeq rfl rfl (fun c1007 => ?_) (fun c1007 => absurd (by decide) c1007)
                    refine q_iconst rfl rfl ?_
                    refine q_iret rfl rfl rfl ?_
                    refine ⟨_, rfl, ?_⟩
                    refine q_ifeq rfl rfl (fun c1008 => ?_) (fun c1008 => absurd (by decide) c1008)
                    refine q_icc4 (z := 5) rfl rfl rfl rfl rfl ?_
                    refine q_goto rfl ?_
                    refine q_iload rfl rfl rfl ?_
                    refine q_aload_n rfl rfl rfl ?_
                    refine q_alen rfl rfl (by decide) rfl rfl (q_tn (z := 5) rfl ?_)
                    refine q_icge rfl rfl (fun c1009 => ?_) (fun c1009 => absurd (by decide) c1009)
                    refine q_iload_n rfl rfl rfl ?_
                    refine q_iload_n rfl rfl rfl ?_
                    refine q_nS1 rfl rfl (Or.inl rfl) rfl rfl ⟨rfl, rfl⟩ rfl ?_
                    change PQ _ _ _ mm_J6_bitCount_0f7a4 0 [.int 31] [] _ _ 0 0 _
                    refine q_iload_n rfl rfl rfl ?_
                    refine q_iload_n rfl rfl rfl ?_
                    refine q_iconst rfl rfl ?_
                    refine q_iushr rfl rfl (q_tn (z := 15) rfl ?_)
                    refine q_ldcw rfl rfl ?_
                    refine q_iand rfl rfl (q_tn (z := 5) rfl ?_)
                    refine q_isub rfl rfl (q_tn (z := 26) rfl ?_)
                    refine q_ist0n rfl rfl rfl ?_
                    refine q_iload_n rfl rfl rfl ?_
                    refine q_ldcw rfl rfl ?_
                    refine q_iand rfl rfl (q_tn (z := 18) rfl ?_)
                    refine q_iload_n rfl rfl rfl ?_
                    refine q_iconst rfl rfl ?_
                    refine q_iushr rfl rfl (q_tn (z := 6) rfl ?_)
                    refine q_ldcw rfl rfl ?_
                    refine q_iand rfl rfl (q_tn (z := 2) rfl ?_)
                    refine q_iadd rfl rfl (q_tn (z := 20) rfl ?_)
                    refine q_ist0n rfl rfl rfl ?_
                    refine q_iload_n rfl rfl rfl ?_
                    refine q_iload_n rfl rfl rfl ?_
                    refine q_iconst rfl rfl ?_
                    refine q_iushr rfl rfl (q_tn (z := 1) rfl ?_)
                    refine q_iadd rfl rfl (q_tn (z := 21) rfl ?_)
                    refine q_ldcw rfl rfl ?_
                    refine q_iand rfl rfl (q_tn (z := 5) rfl ?_)
                    refine q_ist0n rfl rfl rfl ?_
                    refine q_iload_n rfl rfl rfl ?_
                    refine q_iload_n rfl rfl rfl ?_
                    refine q_bipush rfl rfl ?_
                    refine q_iushr rfl rfl (q_tn (z := 0) rfl ?_)
                    refine q_iadd rfl rfl (q_tn (z := 5) rfl ?_)
                    refine q_ist0n rfl rfl rfl ?_
                    refine q_iload_n rfl rfl rfl ?_
                    refine q_iload_n rfl rfl rfl ?_
                    refine q_bipush rfl rfl ?_
                    refine q_iushr rfl rfl (q_tn (z := 0) rfl ?_)
                    refine q_iadd rfl rfl (q_tn (z := 5) rfl ?_)
                    refine q_ist0n rfl rfl rfl ?_
                    refine q_iload_n rfl rfl rfl ?_
                    refine q_bipush rfl rfl ?_
                    refine q_iand rfl rfl (q_tn (z := 5) rfl ?_)
                    refine q_iret rfl rfl trivial ?_
                    refine ⟨_, rfl, ?_⟩
                    refine q_iload_n rfl rfl rfl ?_
                    refine q_isub rfl rfl (q_tn (z := 5) rfl ?_)
                    refine q_mmax (z := 5) rfl om_gp rfl rfl rfl ?_
                    refine q_iret rfl rfl trivial ?_
                    refine ⟨_, rfl, ?_⟩
                    refine q_ist6 rfl rfl rfl rfl ?_
                    refine q_aload_n rfl rfl rfl ?_
                    refine q_getf rfl rfl (by decide) (FW_42 S hW) rfl ?_
                    refine q_iload rfl rfl rfl ?_
                    refine q_nS2 rfl rfl (Or.inr rfl) rfl rfl ⟨rfl, rfl⟩ rfl ?_
                    change PQ _ _ _ mm_X11_says 0 [.long 0, pm_un, .int 25] [] _ _ 0 0 _
                    refine q_lload_n rfl rfl rfl ?_
                    refine q_iload_n rfl rfl rfl ?_
                    refine q_lushr rfl rfl (q_tnl (z := 0) rfl ?_)
                    refine q_lconst rfl rfl ?_
                    refine q_land rfl rfl (q_tnl (z := 0) rfl ?_)
                    refine q_lconst rfl rfl ?_
                    refine q_lcmp rfl rfl (q_tn (z := 0) rfl ?_)
                    refine q_ifeq rfl rfl (fun c1010 => ?_) (fun c1010 => absurd (by decide) c1010)
                    refine q_iconst rfl rfl ?_
                    refine q_iret rfl rfl rfl ?_
                    refine ⟨_, rfl, ?_⟩
                    refine q_ifne rfl rfl (fun c1011 => ?_) (fun c1011 => absurd (by decide) c1011)
                    refine q_iload rfl rfl rfl ?_
                    refine q_iload rfl rfl rfl ?_
                    refine q_icge rfl rfl (fun c1012 => ?_) (fun c1012 => absurd (by decide) c1012)
                    refine q_icc5 (z := 26) rfl rfl rfl rfl rfl ?_
                    refine q_goto rfl ?_
                    refine q_iload rfl rfl rfl ?_
                    refine q_bipush rfl rfl ?_
                    refine q_icge rfl rfl (fun c1013 => absurd c1013 (by decide)) (fun c1013 => ?_)
                    refine q_aload_n rfl rfl rfl ?_
                    refine q_iload_n rfl rfl rfl ?_
                    refine q_iload rfl rfl rfl ?_
                    refine q_nS3 rfl rfl (Or.inl rfl) rfl rfl ⟨rfl, rfl⟩ rfl ?_
                    change PQ _ _ _ mm_X3_greaterPart 0 [.ref 45, .int 31, .int 26, pm_un, pm_un] [] _ _ 0 0 _
                    refine q_iconst rfl rfl ?_
                    refine q_ist3n rfl rfl rfl rfl ?_
                    refine q_iconst rfl rfl ?_
                    refine q_ist4 rfl rfl rfl rfl ?_
                    refine q_iload rfl rfl rfl ?_
                    refine q_aload_n rfl rfl rfl ?_
                    refine q_alen rfl rfl (by decide) rfl rfl (q_tn (z := 5) rfl ?_)
                    refine q_icge rfl rfl (fun c1014 => absurd c1014 (by decide)) (fun c1014 => ?_)
                    refine q_iload_n rfl rfl rfl ?_
                    refine q_iload rfl rfl rfl ?_
                    refine q_iushr rfl rfl (q_tn (z := 31) rfl ?_)
                    refine q_iconst rfl rfl ?_
                    refine q_iand rfl rfl (q_tn (z := 1) rfl ?_)
                    refine q_ifeq rfl rfl (fun c1015 => absurd c1015 (by decide)) (fun c1015 => ?_)
                    refine q_aload_n rfl rfl rfl ?_
                    refine q_iload rfl rfl rfl ?_
                    refine q_lald rfl rfl (by decide) rfl (by decide) (q_tnl (z := 1074791425) rfl ?_)
                    refine q_iload_n rfl rfl rfl ?_
                    refine q_nS2 rfl rfl (Or.inr rfl) rfl rfl ⟨rfl, rfl⟩ rfl ?_
                    change PQ _ _ _ mm_X11_says 0 [.long 1074791425, pm_un, .int 26] [] _ _ 0 0 _
                    refine q_lload_n rfl rfl rfl ?_
                    refine q_iload_n rfl rfl rfl ?_
                    refine q_lushr rfl rfl (q_tnl (z := 16) rfl ?_)
                    refine q_lconst rfl rfl ?_
                    refine q_land rfl rfl (q_tnl (z := 0) rfl ?_)
                    refine q_lconst rfl rfl ?_
                    refine q_lcmp rfl rfl (q_tn (z := 0) rfl ?_)
                    refine q_ifeq rfl rfl (fun c1016 => ?_) (fun c1016 => absurd (by decide) c1016)
                    refine q_iconst rfl rfl ?_
                    refine q_iret rfl rfl rfl ?_
                    refine ⟨_, rfl, ?_⟩
                    refine q_ifeq rfl rfl (fun c1017 => ?_) (fun c1017 => absurd (by decide) c1017)
                    refine q_icc4 (z := 1) rfl rfl rfl rfl rfl ?_
                    refine q_goto rfl ?_
                    refine q_iload rfl rfl rfl ?_
                    refine q_aload_n rfl rfl rfl ?_
                    refine q_alen rfl rfl (by decide) rfl rfl (q_tn (z := 5) rfl ?_)
                    refine q_icge rfl rfl (fun c1018 => absurd c1018 (by decide)) (fun c1018 => ?_)
                    refine q_iload_n rfl rfl rfl ?_
                    refine q_iload rfl rfl rfl ?_
                    refine q_iushr rfl rfl (q_tn (z := 15) rfl ?_)
                    refine q_iconst rfl rfl ?_
                    refine q_iand rfl rfl (q_tn (z := 1) rfl ?_)
                    refine q_ifeq rfl rfl (fun c1019 => absurd c1019 (by decide)) (fun c1019 => ?_)
                    refine q_aload_n rfl rfl rfl ?_
                    refine q_iload rfl rfl rfl ?_
                    refine q_lald rfl rfl (by decide) rfl (by decide) (q_tnl (z := 1074791425) rfl ?_)
                    refine q_iload_n rfl rfl rfl ?_
                    refine q_nS2 rfl rfl (Or.inr rfl) rfl rfl ⟨rfl, rfl⟩ rfl ?_
                    change PQ _ _ _ mm_X11_says 0 [.long 1074791425, pm_un, .int 26] [] _ _ 0 0 _
                    refine q_lload_n rfl rfl rfl ?_
                    refine q_iload_n rfl rfl rfl ?_
                    refine q_lushr rfl rfl (q_tnl (z := 16) rfl ?_)
                    refine q_lconst rfl rfl ?_
                    refine q_land rfl rfl (q_tnl (z := 0) rfl ?_)
                    refine q_lconst rfl rfl ?_
                    refine q_lcmp rfl rfl (q_tn (z := 0) rfl ?_)
                    refine q_ifeq rfl rfl (fun c1020 => ?_) (fun c1020 => absurd (by decide) c1020)
                    refine q_iconst rfl rfl ?_
                    refine q_iret rfl rfl rfl ?_
                    refine ⟨_, rfl, ?_⟩
                    refine q_ifeq rfl rfl (fun c1021 => ?_) (fun c1021 => absurd (by decide) c1021)
                    refine q_icc4 (z := 2) rfl rfl rfl rfl rfl ?_
                    refine q_goto rfl ?_
                    refine q_iload rfl rfl rfl ?_
                    refine q_aload_n rfl rfl rfl ?_
                    refine q_alen rfl rfl (by decide) rfl rfl (q_tn (z := 5) rfl ?_)
                    refine q_icge rfl rfl (fun c1022 => absurd c1022 (by decide)) (fun c1022 => ?_)
                    refine q_iload_n rfl rfl rfl ?_
                    refine q_iload rfl rfl rfl ?_
                    refine q_iushr rfl rfl (q_tn (z := 7) rfl ?_)
                    refine q_iconst rfl rfl ?_
                    refine q_iand rfl rfl (q_tn (z := 1) rfl ?_)
                    refine q_ifeq rfl rfl (fun c1023 => absurd c1023 (by decide)) (fun c1023 => ?_)
                    refine q_aload_n rfl rfl rfl ?_
                    refine q_iload rfl rfl rfl ?_
                    refine q_lald rfl rfl (by decide) rfl (by decide) (q_tnl (z := 1074791425) rfl ?_)
                    refine q_iload_n rfl rfl rfl ?_
                    refine q_nS2 rfl rfl (Or.inr rfl) rfl rfl ⟨rfl, rfl⟩ rfl ?_
                    change PQ _ _ _ mm_X11_says 0 [.long 1074791425, pm_un, .int 26] [] _ _ 0 0 _
                    refine q_lload_n rfl rfl rfl ?_
                    refine q_iload_n rfl rfl rfl ?_
                    refine q_lushr rfl rfl (q_tnl (z := 16) rfl ?_)
                    refine q_lconst rfl rfl ?_
                    refine q_land rfl rfl (q_tnl (z := 0) rfl ?_)
                    refine q_lconst rfl rfl ?_
                    refine q_lcmp rfl rfl (q_tn (z := 0) rfl ?_)
                    refine q_ifeq rfl rfl (fun c1024 => ?_) (fun c1024 => absurd (by decide) c1024)
                    refine q_iconst rfl rfl ?_
                    refine q_iret rfl rfl rfl ?_
                    refine ⟨_, rfl, ?_⟩
                    refine q_ifeq rfl rfl (fun c1025 => ?_) (fun c1025 => absurd (by decide) c1025)
                    refine q_icc4 (z := 3) rfl rfl rfl rfl rfl ?_
                    refine q_goto rfl ?_
                    refine q_iload rfl rfl rfl ?_
                    refine q_aload_n rfl rfl rfl ?_
                    refine q_alen rfl rfl (by decide) rfl rfl (q_tn (z := 5) rfl ?_)
                    refine q_icge rfl rfl (fun c1026 => absurd c1026 (by decide)) (fun c1026 => ?_)
                    refine q_iload_n rfl rfl rfl ?_
                    refine q_iload rfl rfl rfl ?_
                    refine q_iushr rfl rfl (q_tn (z := 3) rfl ?_)
                    refine q_iconst rfl rfl ?_
                    refine q_iand rfl rfl (q_tn (z := 1) rfl ?_)
                    refine q_ifeq rfl rfl (fun c1027 => absurd c1027 (by decide)) (fun c1027 => ?_)
                    refine q_aload_n rfl rfl rfl ?_
                    refine q_iload rfl rfl rfl ?_
                    refine q_lald rfl rfl (by decide) rfl (by decide) (q_tnl (z := 1074791425) rfl ?_)
                    refine q_iload_n rfl rfl rfl ?_
                    refine q_nS2 rfl rfl (Or.inr rfl) rfl rfl ⟨rfl, rfl⟩ rfl ?_
                    change PQ _ _ _ mm_X11_says 0 [.long 1074791425, pm_un, .int 26] [] _ _ 0 0 _
                    refine q_lload_n rfl rfl rfl ?_
                    refine q_iload_n rfl rfl rfl ?_
                    refine q_lushr rfl rfl (q_tnl (z := 16) rfl ?_)
                    refine q_lconst rfl rfl ?_
                    refine q_land rfl rfl (q_tnl (z := 0) rfl ?_)
                    refine q_lconst rfl rfl ?_
                    refine q_lcmp rfl rfl (q_tn (z := 0) rfl ?_)
                    refine q_ifeq rfl rfl (fun c1028 => ?_) (fun c1028 => absurd (by decide) c1028)
                    refine q_iconst rfl rfl ?_
                    refine q_iret rfl rfl rfl ?_
                    refine ⟨_, rfl, ?_⟩
                    refine q_ifeq rfl rfl (fun c1029 => ?_) (fun c1029 => absurd (by decide) c1029)
                    refine q_icc4 (z := 4) rfl rfl rfl rfl rfl ?_
                    refine q_goto rfl ?_
                    refine q_iload rfl rfl rfl ?_
                    refine q_aload_n rfl rfl rfl ?_
                    refine q_alen rfl rfl (by decide) rfl rfl (q_tn (z := 5) rfl ?_)
                    refine q_icge rfl rfl (fun c1030 => absurd c1030 (by decide)) (fun c1030 => ?_)
                    refine q_iload_n rfl rfl rfl ?_
                    refine q_iload rfl rfl rfl ?_
                    refine q_iushr rfl rfl (q_tn (z := 1) rfl ?_)
                    refine q_iconst rfl rfl ?_
                    refine q_iand rfl rfl (q_tn (z := 1) rfl ?_)
                    refine q_ifeq rfl rfl (fun c1031 => absurd c1031 (by decide)) (fun c1031 => ?_)
                    refine q_aload_n rfl rfl rfl ?_
                    refine q_iload rfl rfl rfl ?_
                    refine q_lald rfl rfl (by decide) rfl (by decide) (q_tnl (z := 1074791425) rfl ?_)
                    refine q_iload_n rfl rfl rfl ?_
                    refine q_nS2 rfl rfl (Or.inr rfl) rfl rfl ⟨rfl, rfl⟩ rfl ?_
                    change PQ _ _ _ mm_X11_says 0 [.long 1074791425, pm_un, .int 26] [] _ _ 0 0 _
                    refine q_lload_n rfl rfl rfl ?_
                    refine q_iload_n rfl rfl rfl ?_
                    refine q_lushr rfl rfl (q_tnl (z := 16) rfl ?_)
                    refine q_lconst rfl rfl ?_
                    refine q_land rfl rfl (q_tnl (z := 0) rfl ?_)
                    refine q_lconst rfl rfl ?_
                    refine q_lcmp rfl rfl (q_tn (z := 0) rfl ?_)
                    refine q_ifeq rfl rfl (fun c1032 => ?_) (fun c1032 => absurd (by decide) c1032)
                    refine q_iconst rfl rfl ?_
                    refine q_iret rfl rfl rfl ?_
                    refine ⟨_, rfl, ?_⟩
                    refine q_ifeq rfl rfl (fun c1033 => ?_) (fun c1033 => absurd (by decide) c1033)
                    refine q_icc4 (z := 5) rfl rfl rfl rfl rfl ?_
                    refine q_goto rfl ?_
                    refine q_iload rfl rfl rfl ?_
                    refine q_aload_n rfl rfl rfl ?_
                    refine q_alen rfl rfl (by decide) rfl rfl (q_tn (z := 5) rfl ?_)
                    refine q_icge rfl rfl (fun c1034 => ?_) (fun c1034 => absurd (by decide) c1034)
                    refine q_iload_n rfl rfl rfl ?_
                    refine q_iload_n rfl rfl rfl ?_
                    refine q_nS1 rfl rfl (Or.inl rfl) rfl rfl ⟨rfl, rfl⟩ rfl ?_
                    change PQ _ _ _ mm_J6_bitCount_0f7a4 0 [.int 31] [] _ _ 0 0 _
                    refine q_iload_n rfl rfl rfl ?_
                    refine q_iload_n rfl rfl rfl ?_
                    refine q_iconst rfl rfl ?_
                    refine q_iushr rfl rfl (q_tn (z := 15) rfl ?_)
                    refine q_ldcw rfl rfl ?_
                    refine q_iand rfl rfl (q_tn (z := 5) rfl ?_)
                    refine q_isub rfl rfl (q_tn (z := 26) rfl ?_)
                    refine q_ist0n rfl rfl rfl ?_
                    refine q_iload_n rfl rfl rfl ?_
                    refine q_ldcw rfl rfl ?_
                    refine q_iand rfl rfl (q_tn (z := 18) rfl ?_)
                    refine q_iload_n rfl rfl rfl ?_
                    refine q_iconst rfl rfl ?_
                    refine q_iushr rfl rfl (q_tn (z := 6) rfl ?_)
                    refine q_ldcw rfl rfl ?_
                    refine q_iand rfl rfl (q_tn (z := 2) rfl ?_)
                    refine q_iadd rfl rfl (q_tn (z := 20) rfl ?_)
                    refine q_ist0n rfl rfl rfl ?_
                    refine q_iload_n rfl rfl rfl ?_
                    refine q_iload_n rfl rfl rfl ?_
                    refine q_iconst rfl rfl ?_
                    refine q_iushr rfl rfl (q_tn (z := 1) rfl ?_)
                    refine q_iadd rfl rfl (q_tn (z := 21) rfl ?_)
                    refine q_ldcw rfl rfl ?_
                    refine q_iand rfl rfl (q_tn (z := 5) rfl ?_)
                    refine q_ist0n rfl rfl rfl ?_
                    refine q_iload_n rfl rfl rfl ?_
                    refine q_iload_n rfl rfl rfl ?_
                    refine q_bipush rfl rfl ?_
                    refine q_iushr rfl rfl (q_tn (z := 0) rfl ?_)
                    refine q_iadd rfl rfl (q_tn (z := 5) rfl ?_)
                    refine q_ist0n rfl rfl rfl ?_
                    refine q_iload_n rfl rfl rfl ?_
                    refine q_iload_n rfl rfl rfl ?_
                    refine q_bipush rfl rfl ?_
                    refine q_iushr rfl rfl (q_tn (z := 0) rfl ?_)
                    refine q_iadd rfl rfl (q_tn (z := 5) rfl ?_)
                    refine q_ist0n rfl rfl rfl ?_
                    refine q_iload_n rfl rfl rfl ?_
                    refine q_bipush rfl rfl ?_
                    refine q_iand rfl rfl (q_tn (z := 5) rfl ?_)
                    refine q_iret rfl rfl trivial ?_
                    refine ⟨_, rfl, ?_⟩
                    refine q_iload_n rfl rfl rfl ?_
                    refine q_isub rfl rfl (q_tn (z := 5) rfl ?_)
                    refine q_mmax (z := 5) rfl om_gp rfl rfl rfl ?_
                    refine q_iret rfl rfl trivial ?_
                    refine ⟨_, rfl, ?_⟩
                    refine q_ist6 rfl rfl rfl rfl ?_
                    refine q_aload_n rfl rfl rfl ?_
                    refine q_getf rfl rfl (by decide) (FW_42 S hW) rfl ?_
                    refine q_iload rfl rfl rfl ?_
                    refine q_nS2 rfl rfl (Or.inr rfl) rfl rfl ⟨rfl, rfl⟩ rfl ?_
                    change PQ _ _ _ mm_X11_says 0 [.long 0, pm_un, .int 26] [] _ _ 0 0 _
                    refine q_lload_n rfl rfl rfl ?_
                    refine q_iload_n rfl rfl rfl ?_
                    refine q_lushr rfl rfl (q_tnl (z := 0) rfl ?_)
                    refine q_lconst rfl rfl ?_
                    refine q_land rfl rfl (q_tnl (z := 0) rfl ?_)
                    refine q_lconst rfl rfl ?_
                    refine q_lcmp rfl rfl (q_tn (z := 0) rfl ?_)
                    refine q_ifeq rfl rfl (fun c1035 => ?_) (fun c1035 => absurd (by decide) c1035)
                    refine q_iconst rfl rfl ?_
                    refine q_iret rfl rfl rfl ?_
                    refine ⟨_, rfl, ?_⟩
                    refine q_ifne rfl rfl (fun c1036 => ?_) (fun c1036 => absurd (by decide) c1036)
                    refine q_iload rfl rfl rfl ?_
                    refine q_iload rfl rfl rfl ?_
                    refine q_icge rfl rfl (fun c1037 => ?_) (fun c1037 => absurd (by decide) c1037)
                    refine q_icc5 (z := 27) rfl rfl rfl rfl rfl ?_
                    refine q_goto rfl ?_
                    refine q_iload rfl rfl rfl ?_
                    refine q_bipush rfl rfl ?_
                    refine q_icge rfl rfl (fun c1038 => absurd c1038 (by decide)) (fun c1038 => ?_)
                    refine q_aload_n rfl rfl rfl ?_
                    refine q_iload_n rfl rfl rfl ?_
                    refine q_iload rfl rfl rfl ?_
                    refine q_nS3 rfl rfl (Or.inl rfl) rfl rfl ⟨rfl, rfl⟩ rfl ?_
                    change PQ _ _ _ mm_X3_greaterPart 0 [.ref 45, .int 31, .int 27, pm_un, pm_un] [] _ _ 0 0 _
                    refine q_iconst rfl rfl ?_
                    refine q_ist3n rfl rfl rfl rfl ?_
                    refine q_iconst rfl rfl ?_
                    refine q_ist4 rfl rfl rfl rfl ?_
                    refine q_iload rfl rfl rfl ?_
                    refine q_aload_n rfl rfl rfl ?_
                    refine q_alen rfl rfl (by decide) rfl rfl (q_tn (z := 5) rfl ?_)
                    refine q_icge rfl rfl (fun c1039 => absurd c1039 (by decide)) (fun c1039 => ?_)
                    refine q_iload_n rfl rfl rfl ?_
                    refine q_iload rfl rfl rfl ?_
                    refine q_iushr rfl rfl (q_tn (z := 31) rfl ?_)
                    refine q_iconst rfl rfl ?_
                    refine q_iand rfl rfl (q_tn (z := 1) rfl ?_)
                    refine q_ifeq rfl rfl (fun c1040 => absurd c1040 (by decide)) (fun c1040 => ?_)
                    refine q_aload_n rfl rfl rfl ?_
                    refine q_iload rfl rfl rfl ?_
                    refine q_lald rfl rfl (by decide) rfl (by decide) (q_tnl (z := 1074791425) rfl ?_)
                    refine q_iload_n rfl rfl rfl ?_
                    refine q_nS2 rfl rfl (Or.inr rfl) rfl rfl ⟨rfl, rfl⟩ rfl ?_
                    change PQ _ _ _ mm_X11_says 0 [.long 1074791425, pm_un, .int 27] [] _ _ 0 0 _
                    refine q_lload_n rfl rfl rfl ?_
                    refine q_iload_n rfl rfl rfl ?_
                    refine q_lushr rfl rfl (q_tnl (z := 8) rfl ?_)
                    refine q_lconst rfl rfl ?_
                    refine q_land rfl rfl (q_tnl (z := 0) rfl ?_)
                    refine q_lconst rfl rfl ?_
                    refine q_lcmp rfl rfl (q_tn (z := 0) rfl ?_)
                    refine q_ifeq rfl rfl (fun c1041 => ?_) (fun c1041 => absurd (by decide) c1041)
                    refine q_iconst rfl rfl ?_
                    refine q_iret rfl rfl rfl ?_
                    refine ⟨_, rfl, ?_⟩
                    refine q_ifeq rfl rfl (fun c1042 => ?_) (fun c1042 => absurd (by decide) c1042)
                    refine q_icc4 (z := 1) rfl rfl rfl rfl rfl ?_
                    refine q_goto rfl ?_
                    refine q_iload rfl rfl rfl ?_
                    refine q_aload_n rfl rfl rfl ?_
                    refine q_alen rfl rfl (by decide) rfl rfl (q_tn (z := 5) rfl ?_)
                    refine q_icge rfl rfl (fun c1043 => absurd c1043 (by decide)) (fun c1043 => ?_)
                    refine q_iload_n rfl rfl rfl ?_
                    refine q_iload rfl rfl rfl ?_
                    refine q_iushr rfl rfl (q_tn (z := 15) rfl ?_)
                    refine q_iconst rfl rfl ?_
                    refine q_iand rfl rfl (q_tn (z := 1) rfl ?_)
                    refine q_ifeq rfl rfl (fun c1044 => absurd c1044 (by decide)) (fun c1044 => ?_)
                    refine q_aload_n rfl rfl rfl ?_
                    refine q_iload rfl rfl rfl ?_
                    refine q_lald rfl rfl (by decide) rfl (by decide) (q_tnl (z := 1074791425) rfl ?_)
                    refine q_iload_n rfl rfl rfl ?_
                    refine q_nS2 rfl rfl (Or.inr rfl) rfl rfl ⟨rfl, rfl⟩ rfl ?_
                    change PQ _ _ _ mm_X11_says 0 [.long 1074791425, pm_un, .int 27] [] _ _ 0 0 _
                    refine q_lload_n rfl rfl rfl ?_
                    refine q_iload_n rfl rfl rfl ?_
                    refine q_lushr rfl rfl (q_tnl (z := 8) rfl ?_)
                    refine q_lconst rfl rfl ?_
                    refine q_land rfl rfl (q_tnl (z := 0) rfl ?_)
                    refine q_lconst rfl rfl ?_
                    refine q_lcmp rfl rfl (q_tn (z := 0) rfl ?_)
                    refine q_ifeq rfl rfl (fun c1045 => ?_) (fun c1045 => absurd (by decide) c1045)
                    refine q_iconst rfl rfl ?_
                    refine q_iret rfl rfl rfl ?_
                    refine ⟨_, rfl, ?_⟩
                    refine q_ifeq rfl rfl (fun c1046 => ?_) (fun c1046 => absurd (by decide) c1046)
                    refine q_icc4 (z := 2) rfl rfl rfl rfl rfl ?_
                    refine q_goto rfl ?_
                    refine q_iload rfl rfl rfl ?_
                    refine q_aload_n rfl rfl rfl ?_
                    refine q_alen rfl rfl (by decide) rfl rfl (q_tn (z := 5) rfl ?_)
                    refine q_icge rfl rfl (fun c1047 => absurd c1047 (by decide)) (fun c1047 => ?_)
                    refine q_iload_n rfl rfl rfl ?_
                    refine q_iload rfl rfl rfl ?_
                    refine q_iushr rfl rfl (q_tn (z := 7) rfl ?_)
                    refine q_iconst rfl rfl ?_
                    refine q_iand rfl rfl (q_tn (z := 1) rfl ?_)
                    refine q_ifeq rfl rfl (fun c1048 => absurd c1048 (by decide)) (fun c1048 => ?_)
                    refine q_aload_n rfl rfl rfl ?_
                    refine q_iload rfl rfl rfl ?_
                    refine q_lald rfl rfl (by decide) rfl (by decide) (q_tnl (z := 1074791425) rfl ?_)
                    refine q_iload_n rfl rfl rfl ?_
                    refine q_nS2 rfl rfl (Or.inr rfl) rfl rfl ⟨rfl, rfl⟩ rfl ?_
                    change PQ _ _ _ mm_X11_says 0 [.long 1074791425, pm_un, .int 27] [] _ _ 0 0 _
                    refine q_lload_n rfl rfl rfl ?_
                    refine q_iload_n rfl rfl rfl ?_
                    refine q_lushr rfl rfl (q_tnl (z := 8) rfl ?_)
                    refine q_lconst rfl rfl ?_
                    refine q_land rfl rfl (q_tnl (z := 0) rfl ?_)
                    refine q_lconst rfl rfl ?_
                    refine q_lcmp rfl rfl (q_tn (z := 0) rfl ?_)
                    refine q_ifeq rfl rfl (fun c1049 => ?_) (fun c1049 => absurd (by decide) c1049)
                    refine q_iconst rfl rfl ?_
                    refine q_iret rfl rfl rfl ?_
                    refine ⟨_, rfl, ?_⟩
                    refine q_ifeq rfl rfl (fun c1050 => ?_) (fun c1050 => absurd (by decide) c1050)
                    refine q_icc4 (z := 3) rfl rfl rfl rfl rfl ?_
                    refine q_goto rfl ?_
                    refine q_iload rfl rfl rfl ?_
                    refine q_aload_n rfl rfl rfl ?_
                    refine q_alen rfl rfl (by decide) rfl rfl (q_tn (z := 5) rfl ?_)
                    refine q_icge rfl rfl (fun c1051 => absurd c1051 (by decide)) (fun c1051 => ?_)
                    refine q_iload_n rfl rfl rfl ?_
                    refine q_iload rfl rfl rfl ?_
                    refine q_iushr rfl rfl (q_tn (z := 3) rfl ?_)
                    refine q_iconst rfl rfl ?_
                    refine q_iand rfl rfl (q_tn (z := 1) rfl ?_)
                    refine q_ifeq rfl rfl (fun c1052 => absurd c1052 (by decide)) (fun c1052 => ?_)
                    refine q_aload_n rfl rfl rfl ?_
                    refine q_iload rfl rfl rfl ?_
                    refine q_lald rfl rfl (by decide) rfl (by decide) (q_tnl (z := 1074791425) rfl ?_)
                    refine q_iload_n rfl rfl rfl ?_
                    refine q_nS2 rfl rfl (Or.inr rfl) rfl rfl ⟨rfl, rfl⟩ rfl ?_
                    change PQ _ _ _ mm_X11_says 0 [.long 1074791425, pm_un, .int 27] [] _ _ 0 0 _
                    refine q_lload_n rfl rfl rfl ?_
                    refine q_iload_n rfl rfl rfl ?_
                    refine q_lushr rfl rfl (q_tnl (z := 8) rfl ?_)
                    refine q_lconst rfl rfl ?_
                    refine q_land rfl rfl (q_tnl (z := 0) rfl ?_)
                    refine q_lconst rfl rfl ?_
                    refine q_lcmp rfl rfl (q_tn (z := 0) rfl ?_)
                    refine q_ifeq rfl rfl (fun c1053 => ?_) (fun c1053 => absurd (by decide) c1053)
                    refine q_iconst rfl rfl ?_
                    refine q_iret rfl rfl rfl ?_
                    refine ⟨_, rfl, ?_⟩
                    refine q_ifeq rfl rfl (fun c1054 => ?_) (fun c1054 => absurd (by decide) c1054)
                    refine q_icc4 (z := 4) rfl rfl rfl rfl rfl ?_
                    refine q_goto rfl ?_
                    refine q_iload rfl rfl rfl ?_
                    refine q_aload_n rfl rfl rfl ?_
                    refine q_alen rfl rfl (by decide) rfl rfl (q_tn (z := 5) rfl ?_)
                    refine q_icge rfl rfl (fun c1055 => absurd c1055 (by decide)) (fun c1055 => ?_)
                    refine q_iload_n rfl rfl rfl ?_
                    refine q_iload rfl rfl rfl ?_
                    refine q_iushr rfl rfl (q_tn (z := 1) rfl ?_)
                    refine q_iconst rfl rfl ?_
                    refine q_iand rfl rfl (q_tn (z := 1) rfl ?_)
                    refine q_ifeq rfl rfl (fun c1056 => absurd c1056 (by decide)) (fun c1056 => ?_)
                    refine q_aload_n rfl rfl rfl ?_
                    refine q_iload rfl rfl rfl ?_
                    refine q_lald rfl rfl (by decide) rfl (by decide) (q_tnl (z := 1074791425) rfl ?_)
                    refine q_iload_n rfl rfl rfl ?_
                    refine q_nS2 rfl rfl (Or.inr rfl) rfl rfl ⟨rfl, rfl⟩ rfl ?_
                    change PQ _ _ _ mm_X11_says 0 [.long 1074791425, pm_un, .int 27] [] _ _ 0 0 _
                    refine q_lload_n rfl rfl rfl ?_
                    refine q_iload_n rfl rfl rfl ?_
                    refine q_lushr rfl rfl (q_tnl (z := 8) rfl ?_)
                    refine q_lconst rfl rfl ?_
                    refine q_land rfl rfl (q_tnl (z := 0) rfl ?_)
                    refine q_lconst rfl rfl ?_
                    refine q_lcmp rfl rfl (q_tn (z := 0) rfl ?_)
                    refine q_ifeq rfl rfl (fun c1057 => ?_) (fun c1057 => absurd (by decide) c1057)
                    refine q_iconst rfl rfl ?_
                    refine q_iret rfl rfl rfl ?_
                    refine ⟨_, rfl, ?_⟩
                    refine q_ifeq rfl rfl (fun c1058 => ?_) (fun c1058 => absurd (by decide) c1058)
                    refine q_icc4 (z := 5) rfl rfl rfl rfl rfl ?_
                    refine q_goto rfl ?_
                    refine q_iload rfl rfl rfl ?_
                    refine q_aload_n rfl rfl rfl ?_
                    refine q_alen rfl rfl (by decide) rfl rfl (q_tn (z := 5) rfl ?_)
                    refine q_icge rfl rfl (fun c1059 => ?_) (fun c1059 => absurd (by decide) c1059)
                    refine q_iload_n rfl rfl rfl ?_
                    refine q_iload_n rfl rfl rfl ?_
                    refine q_nS1 rfl rfl (Or.inl rfl) rfl rfl ⟨rfl, rfl⟩ rfl ?_
                    change PQ _ _ _ mm_J6_bitCount_0f7a4 0 [.int 31] [] _ _ 0 0 _
                    refine q_iload_n rfl rfl rfl ?_
                    refine q_iload_n rfl rfl rfl ?_
                    refine q_iconst rfl rfl ?_
                    refine q_iushr rfl rfl (q_tn (z := 15) rfl ?_)
                    refine q_ldcw rfl rfl ?_
                    refine q_iand rfl rfl (q_tn (z := 5) rfl ?_)
                    refine q_isub rfl rfl (q_tn (z := 26) rfl ?_)
                    refine q_ist0n rfl rfl rfl ?_
                    refine q_iload_n rfl rfl rfl ?_
                    refine q_ldcw rfl rfl ?_
                    refine q_iand rfl rfl (q_tn (z := 18) rfl ?_)
                    refine q_iload_n rfl rfl rfl ?_
                    refine q_iconst rfl rfl ?_
                    refine q_iushr rfl rfl (q_tn (z := 6) rfl ?_)
                    refine q_ldcw rfl rfl ?_
                    refine q_iand rfl rfl (q_tn (z := 2) rfl ?_)
                    refine q_iadd rfl rfl (q_tn (z := 20) rfl ?_)
                    refine q_ist0n rfl rfl rfl ?_
                    refine q_iload_n rfl rfl rfl ?_
                    refine q_iload_n rfl rfl rfl ?_
                    refine q_iconst rfl rfl ?_
                    refine q_iushr rfl rfl (q_tn (z := 1) rfl ?_)
                    refine q_iadd rfl rfl (q_tn (z := 21) rfl ?_)
                    refine q_ldcw rfl rfl ?_
                    refine q_iand rfl rfl (q_tn (z := 5) rfl ?_)
                    refine q_ist0n rfl rfl rfl ?_
                    refine q_iload_n rfl rfl rfl ?_
                    refine q_iload_n rfl rfl rfl ?_
                    refine q_bipush rfl rfl ?_
                    refine q_iushr rfl rfl (q_tn (z := 0) rfl ?_)
                    refine q_iadd rfl rfl (q_tn (z := 5) rfl ?_)
                    refine q_ist0n rfl rfl rfl ?_
                    refine q_iload_n rfl rfl rfl ?_
                    refine q_iload_n rfl rfl rfl ?_
                    refine q_bipush rfl rfl ?_
                    refine q_iushr rfl rfl (q_tn (z := 0) rfl ?_)
                    refine q_iadd rfl rfl (q_tn (z := 5) rfl ?_)
                    refine q_ist0n rfl rfl rfl ?_
                    refine q_iload_n rfl rfl rfl ?_
                    refine q_bipush rfl rfl ?_
                    refine q_iand rfl rfl (q_tn (z := 5) rfl ?_)
                    refine q_iret rfl rfl trivial ?_
                    refine ⟨_, rfl, ?_⟩
                    refine q_iload_n rfl rfl rfl ?_
                    refine q_isub rfl rfl (q_tn (z := 5) rfl ?_)
                    refine q_mmax (z := 5) rfl om_gp rfl rfl rfl ?_
                    refine q_iret rfl rfl trivial ?_
                    refine ⟨_, rfl, ?_⟩
                    refine q_ist6 rfl rfl rfl rfl ?_
                    refine q_aload_n rfl rfl rfl ?_
                    refine q_getf rfl rfl (by decide) (FW_42 S hW) rfl ?_
                    refine q_iload rfl rfl rfl ?_
                    refine q_nS2 rfl rfl (Or.inr rfl) rfl rfl ⟨rfl, rfl⟩ rfl ?_
                    change PQ _ _ _ mm_X11_says 0 [.long 0, pm_un, .int 27] [] _ _ 0 0 _
                    refine q_lload_n rfl rfl rfl ?_
                    refine q_iload_n rfl rfl rfl ?_
                    refine q_lushr rfl rfl (q_tnl (z := 0) rfl ?_)
                    refine q_lconst rfl rfl ?_
                    refine q_land rfl rfl (q_tnl (z := 0) rfl ?_)
                    refine q_lconst rfl rfl ?_
                    refine q_lcmp rfl rfl (q_tn (z := 0) rfl ?_)
                    refine q_ifeq rfl rfl (fun c1060 => ?_) (fun c1060 => absurd (by decide) c1060)
                    refine q_iconst rfl rfl ?_
                    refine q_iret rfl rfl rfl ?_
                    refine ⟨_, rfl, ?_⟩
                    refine q_ifne rfl rfl (fun c1061 => ?_) (fun c1061 => absurd (by decide) c1061)
                    refine q_iload rfl rfl rfl ?_
                    refine q_iload rfl rfl rfl ?_
                    refine q_icge rfl rfl (fun c1062 => ?_) (fun c1062 => absurd (by decide) c1062)
                    refine q_icc5 (z := 28) rfl rfl rfl rfl rfl ?_
                    refine q_goto rfl ?_
                    refine q_iload rfl rfl rfl ?_
                    refine q_bipush rfl rfl ?_
                    refine q_icge rfl rfl (fun c1063 => absurd c1063 (by decide)) (fun c1063 => ?_)
                    refine q_aload_n rfl rfl rfl ?_
                    refine q_iload_n rfl rfl rfl ?_
                    refine q_iload rfl rfl rfl ?_
                    refine q_nS3 rfl rfl (Or.inl rfl) rfl rfl ⟨rfl, rfl⟩ rfl ?_
                    change PQ _ _ _ mm_X3_greaterPart 0 [.ref 45, .int 31, .int 28, pm_un, pm_un] [] _ _ 0 0 _
                    refine q_iconst rfl rfl ?_
                    refine q_ist3n rfl rfl rfl rfl ?_
                    refine q_iconst rfl rfl ?_
                    refine q_ist4 rfl rfl rfl rfl ?_
                    refine q_iload rfl rfl rfl ?_
                    refine q_aload_n rfl rfl rfl ?_
                    refine q_alen rfl rfl (by decide) rfl rfl (q_tn (z := 5) rfl ?_)
                    refine q_icge rfl rfl (fun c1064 => absurd c1064 (by decide)) (fun c1064 => ?_)
                    refine q_iload_n rfl rfl rfl ?_
                    refine q_iload rfl rfl rfl ?_
                    refine q_iushr rfl rfl (q_tn (z := 31) rfl ?_)
                    refine q_iconst rfl rfl ?_
                    refine q_iand rfl rfl (q_tn (z := 1) rfl ?_)
                    refine q_ifeq rfl rfl (fun c1065 => absurd c1065 (by decide)) (fun c1065 => ?_)
                    refine q_aload_n rfl rfl rfl ?_
                    refine q_iload rfl rfl rfl ?_
                    refine q_lald rfl rfl (by decide) rfl (by decide) (q_tnl (z := 1074791425) rfl ?_)
                    refine q_iload_n rfl rfl rfl ?_
                    refine q_nS2 rfl rfl (Or.inr rfl) rfl rfl ⟨rfl, rfl⟩ rfl ?_
                    change PQ _ _ _ mm_X11_says 0 [.long 1074791425, pm_un, .int 28] [] _ _ 0 0 _
                    refine q_lload_n rfl rfl rfl ?_
                    refine q_iload_n rfl rfl rfl ?_
                    refine q_lushr rfl rfl (q_tnl (z := 4) rfl ?_)
                    refine q_lconst rfl rfl ?_
                    refine q_land rfl rfl (q_tnl (z := 0) rfl ?_)
                    refine q_lconst rfl rfl ?_
                    refine q_lcmp rfl rfl (q_tn (z := 0) rfl ?_)
                    refine q_ifeq rfl rfl (fun c1066 => ?_) (fun c1066 => absurd (by decide) c1066)
                    refine q_iconst rfl rfl ?_
                    refine q_iret rfl rfl rfl ?_
                    refine ⟨_, rfl, ?_⟩
                    refine q_ifeq rfl rfl (fun c1067 => ?_) (fun c1067 => absurd (by decide) c1067)
                    refine q_icc4 (z := 1) rfl rfl rfl rfl rfl ?_
                    refine q_goto rfl ?_
                    refine q_iload rfl rfl rfl ?_
                    refine q_aload_n rfl rfl rfl ?_
                    refine q_alen rfl rfl (by decide) rfl rfl (q_tn (z := 5) rfl ?_)
                    refine q_icge rfl rfl (fun c1068 => absurd c1068 (by decide)) (fun c1068 => ?_)
                    refine q_iload_n rfl rfl rfl ?_
                    refine q_iload rfl rfl rfl ?_
                    refine q_iushr rfl rfl (q_tn (z := 15) rfl ?_)
                    refine q_iconst rfl rfl ?_
                    refine q_iand rfl rfl (q_tn (z := 1) rfl ?_)
                    refine q_ifeq rfl rfl (fun c1069 => absurd c1069 (by decide)) (fun c1069 => ?_)
                    refine q_aload_n rfl rfl rfl ?_
                    refine q_iload rfl rfl rfl ?_
                    refine q_lald rfl rfl (by decide) rfl (by decide) (q_tnl (z := 1074791425) rfl ?_)
                    refine q_iload_n rfl rfl rfl ?_
                    refine q_nS2 rfl rfl (Or.inr rfl) rfl rfl ⟨rfl, rfl⟩ rfl ?_
                    change PQ _ _ _ mm_X11_says 0 [.long 1074791425, pm_un, .int 28] [] _ _ 0 0 _
                    refine q_lload_n rfl rfl rfl ?_
                    refine q_iload_n rfl rfl rfl ?_
                    refine q_lushr rfl rfl (q_tnl (z := 4) rfl ?_)
                    refine q_lconst rfl rfl ?_
                    refine q_land rfl rfl (q_tnl (z := 0) rfl ?_)
                    refine q_lconst rfl rfl ?_
                    refine q_lcmp rfl rfl (q_tn (z := 0) rfl ?_)
                    refine q_ifeq rfl rfl (fun c1070 => ?_) (fun c1070 => absurd (by decide) c1070)
                    refine q_iconst rfl rfl ?_
                    refine q_iret rfl rfl rfl ?_
                    refine ⟨_, rfl, ?_⟩
                    refine q_ifeq rfl rfl (fun c1071 => ?_) (fun c1071 => absurd (by decide) c1071)
                    refine q_icc4 (z := 2) rfl rfl rfl rfl rfl ?_
                    refine q_goto rfl ?_
                    refine q_iload rfl rfl rfl ?_
                    refine q_aload_n rfl rfl rfl ?_
                    refine q_alen rfl rfl (by decide) rfl rfl (q_tn (z := 5) rfl ?_)
                    refine q_icge rfl rfl (fun c1072 => absurd c1072 (by decide)) (fun c1072 => ?_)
                    refine q_iload_n rfl rfl rfl ?_
                    refine q_iload rfl rfl rfl ?_
                    refine q_iushr rfl rfl (q_tn (z := 7) rfl ?_)
                    refine q_iconst rfl rfl ?_
                    refine q_iand rfl rfl (q_tn (z := 1) rfl ?_)
                    refine q_ifeq rfl rfl (fun c1073 => absurd c1073 (by decide)) (fun c1073 => ?_)
                    refine q_aload_n rfl rfl rfl ?_
                    refine q_iload rfl rfl rfl ?_
                    refine q_lald rfl rfl (by decide) rfl (by decide) (q_tnl (z := 1074791425) rfl ?_)
                    refine q_iload_n rfl rfl rfl ?_
                    refine q_nS2 rfl rfl (Or.inr rfl) rfl rfl ⟨rfl, rfl⟩ rfl ?_
                    change PQ _ _ _ mm_X11_says 0 [.long 1074791425, pm_un, .int 28] [] _ _ 0 0 _
                    refine q_lload_n rfl rfl rfl ?_
                    refine q_iload_n rfl rfl rfl ?_
                    refine q_lushr rfl rfl (q_tnl (z := 4) rfl ?_)
                    refine q_lconst rfl rfl ?_
                    refine q_land rfl rfl (q_tnl (z := 0) rfl ?_)
                    refine q_lconst rfl rfl ?_
                    refine q_lcmp rfl rfl (q_tn (z := 0) rfl ?_)
                    refine q_ifeq rfl rfl (fun c1074 => ?_) (fun c1074 => absurd (by decide) c1074)
                    refine q_iconst rfl rfl ?_
                    refine q_iret rfl rfl rfl ?_
                    refine ⟨_, rfl, ?_⟩
                    refine q_ifeq rfl rfl (fun c1075 => ?_) (fun c1075 => absurd (by decide) c1075)
                    refine q_icc4 (z := 3) rfl rfl rfl rfl rfl ?_
                    refine q_goto rfl ?_
                    refine q_iload rfl rfl rfl ?_
                    refine q_aload_n rfl rfl rfl ?_
                    refine q_alen rfl rfl (by decide) rfl rfl (q_tn (z := 5) rfl ?_)
                    refine q_icge rfl rfl (fun c1076 => absurd c1076 (by decide)) (fun c1076 => ?_)
                    refine q_iload_n rfl rfl rfl ?_
                    refine q_iload rfl rfl rfl ?_
                    refine q_iushr rfl rfl (q_tn (z := 3) rfl ?_)
                    refine q_iconst rfl rfl ?_
                    refine q_iand rfl rfl (q_tn (z := 1) rfl ?_)
                    refine q_ifeq rfl rfl (fun c1077 => absurd c1077 (by decide)) (fun c1077 => ?_)
                    refine q_aload_n rfl rfl rfl ?_
                    refine q_iload rfl rfl rfl ?_
                    refine q_lald rfl rfl (by decide) rfl (by decide) (q_tnl (z := 1074791425) rfl ?_)
                    refine q_iload_n rfl rfl rfl ?_
                    refine q_nS2 rfl rfl (Or.inr rfl) rfl rfl ⟨rfl, rfl⟩ rfl ?_
                    change PQ _ _ _ mm_X11_says 0 [.long 1074791425, pm_un, .int 28] [] _ _ 0 0 _
                    refine q_lload_n rfl rfl rfl ?_
                    refine q_iload_n rfl rfl rfl ?_
                    refine q_lushr rfl rfl (q_tnl (z := 4) rfl ?_)
                    refine q_lconst rfl rfl ?_
                    refine q_land rfl rfl (q_tnl (z := 0) rfl ?_)
                    refine q_lconst rfl rfl ?_
                    refine q_lcmp rfl rfl (q_tn (z := 0) rfl ?_)
                    refine q_ifeq rfl rfl (fun c1078 => ?_) (fun c1078 => absurd (by decide) c1078)
                    refine q_iconst rfl rfl ?_
                    refine q_iret rfl rfl rfl ?_
                    refine ⟨_, rfl, ?_⟩
                    refine q_ifeq rfl rfl (fun c1079 => ?_) (fun c1079 => absurd (by decide) c1079)
                    refine q_icc4 (z := 4) rfl rfl rfl rfl rfl ?_
                    refine q_goto rfl ?_
                    refine q_iload rfl rfl rfl ?_
                    refine q_aload_n rfl rfl rfl ?_
                    refine q_alen rfl rfl (by decide) rfl rfl (q_tn (z := 5) rfl ?_)
                    refine q_icge rfl rfl (fun c1080 => absurd c1080 (by decide)) (fun c1080 => ?_)
                    refine q_iload_n rfl rfl rfl ?_
                    refine q_iload rfl rfl rfl ?_
                    refine q_iushr rfl rfl (q_tn (z := 1) rfl ?_)
                    refine q_iconst rfl rfl ?_
                    refine q_iand rfl rfl (q_tn (z := 1) rfl ?_)
                    refine q_ifeq rfl rfl (fun c1081 => absurd c1081 (by decide)) (fun c1081 => ?_)
                    refine q_aload_n rfl rfl rfl ?_
                    refine q_iload rfl rfl rfl ?_
                    refine q_lald rfl rfl (by decide) rfl (by decide) (q_tnl (z := 1074791425) rfl ?_)
                    refine q_iload_n rfl rfl rfl ?_
                    refine q_nS2 rfl rfl (Or.inr rfl) rfl rfl ⟨rfl, rfl⟩ rfl ?_
                    change PQ _ _ _ mm_X11_says 0 [.long 1074791425, pm_un, .int 28] [] _ _ 0 0 _
                    refine q_lload_n rfl rfl rfl ?_
                    refine q_iload_n rfl rfl rfl ?_
                    refine q_lushr rfl rfl (q_tnl (z := 4) rfl ?_)
                    refine q_lconst rfl rfl ?_
                    refine q_land rfl rfl (q_tnl (z := 0) rfl ?_)
                    refine q_lconst rfl rfl ?_
                    refine q_lcmp rfl rfl (q_tn (z := 0) rfl ?_)
                    refine q_ifeq rfl rfl (fun c1082 => ?_) (fun c1082 => absurd (by decide) c1082)
                    refine q_iconst rfl rfl ?_
                    refine q_iret rfl rfl rfl ?_
                    refine ⟨_, rfl, ?_⟩
                    refine q_ifeq rfl rfl (fun c1083 => ?_) (fun c1083 => absurd (by decide) c1083)
                    refine q_icc4 (z := 5) rfl rfl rfl rfl rfl ?_
                    refine q_goto rfl ?_
                    refine q_iload rfl rfl rfl ?_
                    refine q_aload_n rfl rfl rfl ?_
                    refine q_alen rfl rfl (by decide) rfl rfl (q_tn (z := 5) rfl ?_)
                    refine q_icge rfl rfl (fun c1084 => ?_) (fun c1084 => absurd (by decide) c1084)
                    refine q_iload_n rfl rfl rfl ?_
                    refine q_iload_n rfl rfl rfl ?_
                    refine q_nS1 rfl rfl (Or.inl rfl) rfl rfl ⟨rfl, rfl⟩ rfl ?_
                    change PQ _ _ _ mm_J6_bitCount_0f7a4 0 [.int 31] [] _ _ 0 0 _
                    refine q_iload_n rfl rfl rfl ?_
                    refine q_iload_n rfl rfl rfl ?_
                    refine q_iconst rfl rfl ?_
                    refine q_iushr rfl rfl (q_tn (z := 15) rfl ?_)
                    refine q_ldcw rfl rfl ?_
                    refine q_iand rfl rfl (q_tn (z := 5) rfl ?_)
                    refine q_isub rfl rfl (q_tn (z := 26) rfl ?_)
                    refine q_ist0n rfl rfl rfl ?_
                    refine q_iload_n rfl rfl rfl ?_
                    refine q_ldcw rfl rfl ?_
                    refine q_iand rfl rfl (q_tn (z := 18) rfl ?_)
                    refine q_iload_n rfl rfl rfl ?_
                    refine q_iconst rfl rfl ?_
                    refine q_iushr rfl rfl (q_tn (z := 6) rfl ?_)
                    refine q_ldcw rfl rfl ?_
                    refine q_iand rfl rfl (q_tn (z := 2) rfl ?_)
                    refine q_iadd rfl rfl (q_tn (z := 20) rfl ?_)
                    refine q_ist0n rfl rfl rfl ?_
                    refine q_iload_n rfl rfl rfl ?_
                    refine q_iload_n rfl rfl rfl ?_
                    refine q_iconst rfl rfl ?_
                    refine q_iushr rfl rfl (q_tn (z := 1) rfl ?_)
                    refine q_iadd rfl rfl (q_tn (z := 21) rfl ?_)
                    refine q_ldcw rfl rfl ?_
                    refine q_iand rfl rfl (q_tn (z := 5) rfl ?_)
                    refine q_ist0n rfl rfl rfl ?_
                    refine q_iload_n rfl rfl rfl ?_
                    refine q_iload_n rfl rfl rfl ?_
                    refine q_bipush rfl rfl ?_
                    refine q_iushr rfl rfl (q_tn (z := 0) rfl ?_)
                    refine q_iadd rfl rfl (q_tn (z := 5) rfl ?_)
                    refine q_ist0n rfl rfl rfl ?_
                    refine q_iload_n rfl rfl rfl ?_
                    refine q_iload_n rfl rfl rfl ?_
                    refine q_bipush rfl rfl ?_
                    refine q_iushr rfl rfl (q_tn (z := 0) rfl ?_)
                    refine q_iadd rfl rfl (q_tn (z := 5) rfl ?_)
                    refine q_ist0n rfl rfl rfl ?_
                    refine q_iload_n rfl rfl rfl ?_
                    refine q_bipush rfl rfl ?_
                    refine q_iand rfl rfl (q_tn (z := 5) rfl ?_)
                    refine q_iret rfl rfl trivial ?_
                    refine ⟨_, rfl, ?_⟩
                    refine q_iload_n rfl rfl rfl ?_
                    refine q_isub rfl rfl (q_tn (z := 5) rfl ?_)
                    refine q_mmax (z := 5) rfl om_gp rfl rfl rfl ?_
                    refine q_iret rfl rfl trivial ?_
                    refine ⟨_, rfl, ?_⟩
                    refine q_ist6 rfl rfl rfl rfl ?_
                    refine q_aload_n rfl rfl rfl ?_
                    refine q_getf rfl rfl (by decide) (FW_42 S hW) rfl ?_
                    refine q_iload rfl rfl rfl ?_
                    refine q_nS2 rfl rfl (Or.inr rfl) rfl rfl ⟨rfl, rfl⟩ rfl ?_
                    change PQ _ _ _ mm_X11_says 0 [.long 0, pm_un, .int 28] [] _ _ 0 0 _
                    refine q_lload_n rfl rfl rfl ?_
                    refine q_iload_n rfl rfl rfl ?_
                    refine q_lushr rfl rfl (q_tnl (z := 0) rfl ?_)
                    refine q_lconst rfl rfl ?_
                    refine q_land rfl rfl (q_tnl (z := 0) rfl ?_)
                    refine q_lconst rfl rfl ?_
                    refine q_lcmp rfl rfl (q_tn (z := 0) rfl ?_)
                    refine q_ifeq rfl rfl (fun c1085 => ?_) (fun c1085 => absurd (by decide) c1085)
                    refine q_iconst rfl rfl ?_
                    refine q_iret rfl rfl rfl ?_
                    refine ⟨_, rfl, ?_⟩
                    refine q_ifne rfl rfl (fun c1086 => ?_) (fun c1086 => absurd (by decide) c1086)
                    refine q_iload rfl rfl rfl ?_
                    refine q_iload rfl rfl rfl ?_
                    refine q_icge rfl rfl (fun c1087 => ?_) (fun c1087 => absurd (by decide) c1087)
                    refine q_icc5 (z := 29) rfl rfl rfl rfl rfl ?_
                    refine q_goto rfl ?_
                    refine q_iload rfl rfl rfl ?_
                    refine q_bipush rfl rfl ?_
                    refine q_icge rfl rfl (fun c1088 => absurd c1088 (by decide)) (fun c1088 => ?_)
                    refine q_aload_n rfl rfl rfl ?_
                    refine q_iload_n rfl rfl rfl ?_
                    refine q_iload rfl rfl rfl ?_
                    refine q_nS3 rfl rfl (Or.inl rfl) rfl rfl ⟨rfl, rfl⟩ rfl ?_
                    change PQ _ _ _ mm_X3_greaterPart 0 [.ref 45, .int 31, .int 29, pm_un, pm_un] [] _ _ 0 0 _
                    refine q_iconst rfl rfl ?_
                    refine q_ist3n rfl rfl rfl rfl ?_
                    refine q_iconst rfl rfl ?_
                    refine q_ist4 rfl rfl rfl rfl ?_
                    refine q_iload rfl rfl rfl ?_
                    refine q_aload_n rfl rfl rfl ?_
                    refine q_alen rfl rfl (by decide) rfl rfl (q_tn (z := 5) rfl ?_)
                    refine q_icge rfl rfl (fun c1089 => absurd c1089 (by decide)) (fun c1089 => ?_)
                    refine q_iload_n rfl rfl rfl ?_
                    refine q_iload rfl rfl rfl ?_
                    refine q_iushr rfl rfl (q_tn (z := 31) rfl ?_)
                    refine q_iconst rfl rfl ?_
                    refine q_iand rfl rfl (q_tn (z := 1) rfl ?_)
                    refine q_ifeq rfl rfl (fun c1090 => absurd c1090 (by decide)) (fun c1090 => ?_)
                    refine q_aload_n rfl rfl rfl ?_
                    refine q_iload rfl rfl rfl ?_
                    refine q_lald rfl rfl (by decide) rfl (by decide) (q_tnl (z := 1074791425) rfl ?_)
                    refine q_iload_n rfl rfl rfl ?_
                    refine q_nS2 rfl rfl (Or.inr rfl) rfl rfl ⟨rfl, rfl⟩ rfl ?_
                    change PQ _ _ _ mm_X11_says 0 [.long 1074791425, pm_un, .int 29] [] _ _ 0 0 _
                    refine q_lload_n rfl rfl rfl ?_
                    refine q_iload_n rfl rfl rfl ?_
                    refine q_lushr rfl rfl (q_tnl (z := 2) rfl ?_)
                    refine q_lconst rfl rfl ?_
                    refine q_land rfl rfl (q_tnl (z := 0) rfl ?_)
                    refine q_lconst rfl rfl ?_
                    refine q_lcmp rfl rfl (q_tn (z := 0) rfl ?_)
                    refine q_ifeq rfl rfl (fun c1091 => ?_) (fun c1091 => absurd (by decide) c1091)
                    refine q_iconst rfl rfl ?_
                    refine q_iret rfl rfl rfl ?_
                    refine ⟨_, rfl, ?_⟩
                    refine q_ifeq rfl rfl (fun c1092 => ?_) (fun c1092 => absurd (by decide) c1092)
                    refine q_icc4 (z := 1) rfl rfl rfl rfl rfl ?_
                    refine q_goto rfl ?_
                    refine q_iload rfl rfl rfl ?_
                    refine q_aload_n rfl rfl rfl ?_
                    refine q_alen rfl rfl (by decide) rfl rfl (q_tn (z := 5) rfl ?_)
                    refine q_icge rfl rfl (fun c1093 => absurd c1093 (by decide)) (fun c1093 => ?_)
                    refine q_iload_n rfl rfl rfl ?_
                    refine q_iload rfl rfl rfl ?_
                    refine q_iushr rfl rfl (q_tn (z := 15) rfl ?_)
                    refine q_iconst rfl rfl ?_
                    refine q_iand rfl rfl (q_tn (z := 1) rfl ?_)
                    refine q_ifeq rfl rfl (fun c1094 => absurd c1094 (by decide)) (fun c1094 => ?_)
                    refine q_aload_n rfl rfl rfl ?_
                    refine q_iload rfl rfl rfl ?_
                    refine q_lald rfl rfl (by decide) rfl (by decide) (q_tnl (z := 1074791425) rfl ?_)
                    refine q_iload_n rfl rfl rfl ?_
                    refine q_nS2 rfl rfl (Or.inr rfl) rfl rfl ⟨rfl, rfl⟩ rfl ?_
                    change PQ _ _ _ mm_X11_says 0 [.long 1074791425, pm_un, .int 29] [] _ _ 0 0 _
                    refine q_lload_n rfl rfl rfl ?_
                    refine q_iload_n rfl rfl rfl ?_
                    refine q_lushr rfl rfl (q_tnl (z := 2) rfl ?_)
                    refine q_lconst rfl rfl ?_
                    refine q_land rfl rfl (q_tnl (z := 0) rfl ?_)
                    refine q_lconst rfl rfl ?_
                    refine q_lcmp rfl rfl (q_tn (z := 0) rfl ?_)
                    as_aux_lemma =>
                      refine q_ifeq rfl rfl (fun c1095 => ?_) (fun c1095 => absurd (by decide) c1095)
                      refine q_iconst rfl rfl ?_
                      refine q_iret rfl rfl rfl ?_
                      refine ⟨_, rfl, ?_⟩
                      refine q_ifeq rfl rfl (fun c1096 => ?_) (fun c1096 => absurd (by decide) c1096)
                      refine q_icc4 (z := 2) rfl rfl rfl rfl rfl ?_
                      refine q_goto rfl ?_
                      refine q_iload rfl rfl rfl ?_
                      refine q_aload_n rfl rfl rfl ?_
                      refine q_alen rfl rfl (by decide) rfl rfl (q_tn (z := 5) rfl ?_)
                      refine q_icge rfl rfl (fun c1097 => absurd c1097 (by decide)) (fun c1097 => ?_)
                      refine q_iload_n rfl rfl rfl ?_
                      refine q_iload rfl rfl rfl ?_
                      refine q_iushr rfl rfl (q_tn (z := 7) rfl ?_)
                      refine q_iconst rfl rfl ?_
                      refine q_iand rfl rfl (q_tn (z := 1) rfl ?_)
                      refine q_ifeq rfl rfl (fun c1098 => absurd c1098 (by decide)) (fun c1098 => ?_)
                      refine q_aload_n rfl rfl rfl ?_
                      refine q_iload rfl rfl rfl ?_
                      refine q_lald rfl rfl (by decide) rfl (by decide) (q_tnl (z := 1074791425) rfl ?_)
                      refine q_iload_n rfl rfl rfl ?_
                      refine q_nS2 rfl rfl (Or.inr rfl) rfl rfl ⟨rfl, rfl⟩ rfl ?_
                      change PQ _ _ _ mm_X11_says 0 [.long 1074791425, pm_un, .int 29] [] _ _ 0 0 _
                      refine q_lload_n rfl rfl rfl ?_
                      refine q_iload_n rfl rfl rfl ?_
                      refine q_lushr rfl rfl (q_tnl (z := 2) rfl ?_)
                      refine q_lconst rfl rfl ?_
                      refine q_land rfl rfl (q_tnl (z := 0) rfl ?_)
                      refine q_lconst rfl rfl ?_
                      refine q_lcmp rfl rfl (q_tn (z := 0) rfl ?_)
                      refine q_ifeq rfl rfl (fun c1099 => ?_) (fun c1099 => absurd (by decide) c1099)
                      refine q_iconst rfl rfl ?_
                      refine q_iret rfl rfl rfl ?_
                      refine ⟨_, rfl, ?_⟩
                      refine q_ifeq rfl rfl (fun c1100 => ?_) (fun c1100 => absurd (by decide) c1100)
                      refine q_icc4 (z := 3) rfl rfl rfl rfl rfl ?_
                      refine q_goto rfl ?_
                      refine q_iload rfl rfl rfl ?_
                      refine q_aload_n rfl rfl rfl ?_
                      refine q_alen rfl rfl (by decide) rfl rfl (q_tn (z := 5) rfl ?_)
                      refine q_icge rfl rfl (fun c1101 => absurd c1101 (by decide)) (fun c1101 => ?_)
                      refine q_iload_n rfl rfl rfl ?_
                      refine q_iload rfl rfl rfl ?_
                      refine q_iushr rfl rfl (q_tn (z := 3) rfl ?_)
                      refine q_iconst rfl rfl ?_
                      refine q_iand rfl rfl (q_tn (z := 1) rfl ?_)
                      refine q_ifeq rfl rfl (fun c1102 => absurd c1102 (by decide)) (fun c1102 => ?_)
                      refine q_aload_n rfl rfl rfl ?_
                      refine q_iload rfl rfl rfl ?_
                      refine q_lald rfl rfl (by decide) rfl (by decide) (q_tnl (z := 1074791425) rfl ?_)
                      refine q_iload_n rfl rfl rfl ?_
                      refine q_nS2 rfl rfl (Or.inr rfl) rfl rfl ⟨rfl, rfl⟩ rfl ?_
                      change PQ _ _ _ mm_X11_says 0 [.long 1074791425, pm_un, .int 29] [] _ _ 0 0 _
                      refine q_lload_n rfl rfl rfl ?_
                      refine q_iload_n rfl rfl rfl ?_
                      refine q_lushr rfl rfl (q_tnl (z := 2) rfl ?_)
                      refine q_lconst rfl rfl ?_
                      refine q_land rfl rfl (q_tnl (z := 0) rfl ?_)
                      refine q_lconst rfl rfl ?_
                      refine q_lcmp rfl rfl (q_tn (z := 0) rfl ?_)
                      refine q_ifeq rfl rfl (fun c1103 => ?_) (fun c1103 => absurd (by decide) c1103)
                      refine q_iconst rfl rfl ?_
                      refine q_iret rfl rfl rfl ?_
                      refine ⟨_, rfl, ?_⟩
                      refine q_ifeq rfl rfl (fun c1104 => ?_) (fun c1104 => absurd (by decide) c1104)
                      refine q_icc4 (z := 4) rfl rfl rfl rfl rfl ?_
                      refine q_goto rfl ?_
                      refine q_iload rfl rfl rfl ?_
                      refine q_aload_n rfl rfl rfl ?_
                      refine q_alen rfl rfl (by decide) rfl rfl (q_tn (z := 5) rfl ?_)
                      refine q_icge rfl rfl (fun c1105 => absurd c1105 (by decide)) (fun c1105 => ?_)
                      refine q_iload_n rfl rfl rfl ?_
                      refine q_iload rfl rfl rfl ?_
                      refine q_iushr rfl rfl (q_tn (z := 1) rfl ?_)
                      refine q_iconst rfl rfl ?_
                      refine q_iand rfl rfl (q_tn (z := 1) rfl ?_)
                      refine q_ifeq rfl rfl (fun c1106 => absurd c1106 (by decide)) (fun c1106 => ?_)
                      refine q_aload_n rfl rfl rfl ?_
                      refine q_iload rfl rfl rfl ?_
                      refine q_lald rfl rfl (by decide) rfl (by decide) (q_tnl (z := 1074791425) rfl ?_)
                      refine q_iload_n rfl rfl rfl ?_
                      refine q_nS2 rfl rfl (Or.inr rfl) rfl rfl ⟨rfl, rfl⟩ rfl ?_
                      change PQ _ _ _ mm_X11_says 0 [.long 1074791425, pm_un, .int 29] [] _ _ 0 0 _
                      refine q_lload_n rfl rfl rfl ?_
                      refine q_iload_n rfl rfl rfl ?_
                      refine q_lushr rfl rfl (q_tnl (z := 2) rfl ?_)
                      refine q_lconst rfl rfl ?_
                      refine q_land rfl rfl (q_tnl (z := 0) rfl ?_)
                      refine q_lconst rfl rfl ?_
                      refine q_lcmp rfl rfl (q_tn (z := 0) rfl ?_)
                      refine q_ifeq rfl rfl (fun c1107 => ?_) (fun c1107 => absurd (by decide) c1107)
                      refine q_iconst rfl rfl ?_
                      refine q_iret rfl rfl rfl ?_
                      refine ⟨_, rfl, ?_⟩
                      refine q_ifeq rfl rfl (fun c1108 => ?_) (fun c1108 => absurd (by decide) c1108)
                      refine q_icc4 (z := 5) rfl rfl rfl rfl rfl ?_
                      refine q_goto rfl ?_
                      refine q_iload rfl rfl rfl ?_
                      refine q_aload_n rfl rfl rfl ?_
                      refine q_alen rfl rfl (by decide) rfl rfl (q_tn (z := 5) rfl ?_)
                      refine q_icge rfl rfl (fun c1109 => ?_) (fun c1109 => absurd (by decide) c1109)
                      refine q_iload_n rfl rfl rfl ?_
                      refine q_iload_n rfl rfl rfl ?_
                      refine q_nS1 rfl rfl (Or.inl rfl) rfl rfl ⟨rfl, rfl⟩ rfl ?_
                      change PQ _ _ _ mm_J6_bitCount_0f7a4 0 [.int 31] [] _ _ 0 0 _
                      refine q_iload_n rfl rfl rfl ?_
                      refine q_iload_n rfl rfl rfl ?_
                      refine q_iconst rfl rfl ?_
                      refine q_iushr rfl rfl (q_tn (z := 15) rfl ?_)
                      refine q_ldcw rfl rfl ?_
                      refine q_iand rfl rfl (q_tn (z := 5) rfl ?_)
                      refine q_isub rfl rfl (q_tn (z := 26) rfl ?_)
                      refine q_ist0n rfl rfl rfl ?_
                      refine q_iload_n rfl rfl rfl ?_
                      refine q_ldcw rfl rfl ?_
                      refine q_iand rfl rfl (q_tn (z := 18) rfl ?_)
                      refine q_iload_n rfl rfl rfl ?_
                      refine q_iconst rfl rfl ?_
                      refine q_iushr rfl rfl (q_tn (z := 6) rfl ?_)
                      refine q_ldcw rfl rfl ?_
                      refine q_iand rfl rfl (q_tn (z := 2) rfl ?_)
                      refine q_iadd rfl rfl (q_tn (z := 20) rfl ?_)
                      refine q_ist0n rfl rfl rfl ?_
                      refine q_iload_n rfl rfl rfl ?_
                      refine q_iload_n rfl rfl rfl ?_
                      refine q_iconst rfl rfl ?_
                      refine q_iushr rfl rfl (q_tn (z := 1) rfl ?_)
                      refine q_iadd rfl rfl (q_tn (z := 21) rfl ?_)
                      refine q_ldcw rfl rfl ?_
                      refine q_iand rfl rfl (q_tn (z := 5) rfl ?_)
                      refine q_ist0n rfl rfl rfl ?_
                      refine q_iload_n rfl rfl rfl ?_
                      refine q_iload_n rfl rfl rfl ?_
                      refine q_bipush rfl rfl ?_
                      refine q_iushr rfl rfl (q_tn (z := 0) rfl ?_)
                      refine q_iadd rfl rfl (q_tn (z := 5) rfl ?_)
                      refine q_ist0n rfl rfl rfl ?_
                      refine q_iload_n rfl rfl rfl ?_
                      refine q_iload_n rfl rfl rfl ?_
                      refine q_bipush rfl rfl ?_
                      refine q_iushr rfl rfl (q_tn (z := 0) rfl ?_)
                      refine q_iadd rfl rfl (q_tn (z := 5) rfl ?_)
                      refine q_ist0n rfl rfl rfl ?_
                      refine q_iload_n rfl rfl rfl ?_
                      refine q_bipush rfl rfl ?_
                      refine q_iand rfl rfl (q_tn (z := 5) rfl ?_)
                      refine q_iret rfl rfl trivial ?_
                      refine ⟨_, rfl, ?_⟩
                      refine q_iload_n rfl rfl rfl ?_
                      refine q_isub rfl rfl (q_tn (z := 5) rfl ?_)
                      refine q_mmax (z := 5) rfl om_gp rfl rfl rfl ?_
                      refine q_iret rfl rfl trivial ?_
                      refine ⟨_, rfl, ?_⟩
                      refine q_ist6 rfl rfl rfl rfl ?_
                      refine q_aload_n rfl rfl rfl ?_
                      refine q_getf rfl rfl (by decide) (FW_42 S hW) rfl ?_
                      refine q_iload rfl rfl rfl ?_
                      refine q_nS2 rfl rfl (Or.inr rfl) rfl rfl ⟨rfl, rfl⟩ rfl ?_
                      change PQ _ _ _ mm_X11_says 0 [.long 0, pm_un, .int 29] [] _ _ 0 0 _
                      refine q_lload_n rfl rfl rfl ?_
                      refine q_iload_n rfl rfl rfl ?_
                      refine q_lushr rfl rfl (q_tnl (z := 0) rfl ?_)
                      refine q_lconst rfl rfl ?_
                      refine q_land rfl rfl (q_tnl (z := 0) rfl ?_)
                      refine q_lconst rfl rfl ?_
                      refine q_lcmp rfl rfl (q_tn (z := 0) rfl ?_)
                      refine q_ifeq rfl rfl (fun c1110 => ?_) (fun c1110 => absurd (by decide) c1110)
                      refine q_iconst rfl rfl ?_
                      refine q_iret rfl rfl rfl ?_
                      refine ⟨_, rfl, ?_⟩
                      refine q_ifne rfl rfl (fun c1111 => ?_) (fun c1111 => absurd (by decide) c1111)
                      refine q_iload rfl rfl rfl ?_
                      refine q_iload rfl rfl rfl ?_
                      refine q_icge rfl rfl (fun c1112 => ?_) (fun c1112 => absurd (by decide) c1112)
                      refine q_icc5 (z := 30) rfl rfl rfl rfl rfl ?_
                      refine q_goto rfl ?_
                      refine q_iload rfl rfl rfl ?_
                      refine q_bipush rfl rfl ?_
                      refine q_icge rfl rfl (fun c1113 => absurd c1113 (by decide)) (fun c1113 => ?_)
                      refine q_aload_n rfl rfl rfl ?_
                      refine q_iload_n rfl rfl rfl ?_
                      refine q_iload rfl rfl rfl ?_
                      refine q_nS3 rfl rfl (Or.inl rfl) rfl rfl ⟨rfl, rfl⟩ rfl ?_
                      change PQ _ _ _ mm_X3_greaterPart 0 [.ref 45, .int 31, .int 30, pm_un, pm_un] [] _ _ 0 0 _
                      refine q_iconst rfl rfl ?_
                      refine q_ist3n rfl rfl rfl rfl ?_
                      refine q_iconst rfl rfl ?_
                      refine q_ist4 rfl rfl rfl rfl ?_
                      refine q_iload rfl rfl rfl ?_
                      refine q_aload_n rfl rfl rfl ?_
                      refine q_alen rfl rfl (by decide) rfl rfl (q_tn (z := 5) rfl ?_)
                      refine q_icge rfl rfl (fun c1114 => absurd c1114 (by decide)) (fun c1114 => ?_)
                      refine q_iload_n rfl rfl rfl ?_
                      refine q_iload rfl rfl rfl ?_
                      refine q_iushr rfl rfl (q_tn (z := 31) rfl ?_)
                      refine q_iconst rfl rfl ?_
                      refine q_iand rfl rfl (q_tn (z := 1) rfl ?_)
                      refine q_ifeq rfl rfl (fun c1115 => absurd c1115 (by decide)) (fun c1115 => ?_)
                      refine q_aload_n rfl rfl rfl ?_
                      refine q_iload rfl rfl rfl ?_
                      refine q_lald rfl rfl (by decide) rfl (by decide) (q_tnl (z := 1074791425) rfl ?_)
                      refine q_iload_n rfl rfl rfl ?_
                      refine q_nS2 rfl rfl (Or.inr rfl) rfl rfl ⟨rfl, rfl⟩ rfl ?_
                      change PQ _ _ _ mm_X11_says 0 [.long 1074791425, pm_un, .int 30] [] _ _ 0 0 _
                      refine q_lload_n rfl rfl rfl ?_
                      refine q_iload_n rfl rfl rfl ?_
                      refine q_lushr rfl rfl (q_tnl (z := 1) rfl ?_)
                      refine q_lconst rfl rfl ?_
                      refine q_land rfl rfl (q_tnl (z := 1) rfl ?_)
                      refine q_lconst rfl rfl ?_
                      refine q_lcmp rfl rfl (q_tn (z := 1) rfl ?_)
                      refine q_ifeq rfl rfl (fun c1116 => absurd c1116 (by decide)) (fun c1116 => ?_)
                      refine q_iconst rfl rfl ?_
                      refine q_goto rfl ?_
                      refine q_iret rfl rfl rfl ?_
                      refine ⟨_, rfl, ?_⟩
                      refine q_ifeq rfl rfl (fun c1117 => absurd c1117 (by decide)) (fun c1117 => ?_)
                      refine q_icc3 (z := 1) rfl rfl rfl rfl rfl ?_
                      refine q_icc4 (z := 1) rfl rfl rfl rfl rfl ?_
                      refine q_goto rfl ?_
                      refine q_iload rfl rfl rfl ?_
                      refine q_aload_n rfl rfl rfl ?_
                      refine q_alen rfl rfl (by decide) rfl rfl (q_tn (z := 5) rfl ?_)
                      refine q_icge rfl rfl (fun c1118 => absurd c1118 (by decide)) (fun c1118 => ?_)
                      refine q_iload_n rfl rfl rfl ?_
                      refine q_iload rfl rfl rfl ?_
                      refine q_iushr rfl rfl (q_tn (z := 15) rfl ?_)
                      refine q_iconst rfl rfl ?_
                      refine q_iand rfl rfl (q_tn (z := 1) rfl ?_)
                      refine q_ifeq rfl rfl (fun c1119 => absurd c1119 (by decide)) (fun c1119 => ?_)
                      refine q_aload_n rfl rfl rfl ?_
                      refine q_iload rfl rfl rfl ?_
                      refine q_lald rfl rfl (by decide) rfl (by decide) (q_tnl (z := 1074791425) rfl ?_)
                      refine q_iload_n rfl rfl rfl ?_
                      refine q_nS2 rfl rfl (Or.inr rfl) rfl rfl ⟨rfl, rfl⟩ rfl ?_
                      change PQ _ _ _ mm_X11_says 0 [.long 1074791425, pm_un, .int 30] [] _ _ 0 0 _
                      refine q_lload_n rfl rfl rfl ?_
                      refine q_iload_n rfl rfl rfl ?_
                      refine q_lushr rfl rfl (q_tnl (z := 1) rfl ?_)
                      refine q_lconst rfl rfl ?_
                      refine q_land rfl rfl (q_tnl (z := 1) rfl ?_)
                      refine q_lconst rfl rfl ?_
                      refine q_lcmp rfl rfl (q_tn (z := 1) rfl ?_)
                      refine q_ifeq rfl rfl (fun c1120 => absurd c1120 (by decide)) (fun c1120 => ?_)
                      refine q_iconst rfl rfl ?_
                      refine q_goto rfl ?_
                      refine q_iret rfl rfl rfl ?_
                      refine ⟨_, rfl, ?_⟩
                      refine q_ifeq rfl rfl (fun c1121 => absurd c1121 (by decide)) (fun c1121 => ?_)
                      refine q_icc3 (z := 2) rfl rfl rfl rfl rfl ?_
                      refine q_icc4 (z := 2) rfl rfl rfl rfl rfl ?_
                      refine q_goto rfl ?_
                      refine q_iload rfl rfl rfl ?_
                      refine q_aload_n rfl rfl rfl ?_
                      refine q_alen rfl rfl (by decide) rfl rfl (q_tn (z := 5) rfl ?_)
                      refine q_icge rfl rfl (fun c1122 => absurd c1122 (by decide)) (fun c1122 => ?_)
                      refine q_iload_n rfl rfl rfl ?_
                      refine q_iload rfl rfl rfl ?_
                      refine q_iushr rfl rfl (q_tn (z := 7) rfl ?_)
                      refine q_iconst rfl rfl ?_
                      refine q_iand rfl rfl (q_tn (z := 1) rfl ?_)
                      refine q_ifeq rfl rfl (fun c1123 => absurd c1123 (by decide)) (fun c1123 => ?_)
                      refine q_aload_n rfl rfl rfl ?_
                      refine q_iload rfl rfl rfl ?_
                      refine q_lald rfl rfl (by decide) rfl (by decide) (q_tnl (z := 1074791425) rfl ?_)
                      refine q_iload_n rfl rfl rfl ?_
                      refine q_nS2 rfl rfl (Or.inr rfl) rfl rfl ⟨rfl, rfl⟩ rfl ?_
                      change PQ _ _ _ mm_X11_says 0 [.long 1074791425, pm_un, .int 30] [] _ _ 0 0 _
                      refine q_lload_n rfl rfl rfl ?_
                      refine q_iload_n rfl rfl rfl ?_
                      refine q_lushr rfl rfl (q_tnl (z := 1) rfl ?_)
                      refine q_lconst rfl rfl ?_
                      refine q_land rfl rfl (q_tnl (z := 1) rfl ?_)
                      refine q_lconst rfl rfl ?_
                      refine q_lcmp rfl rfl (q_tn (z := 1) rfl ?_)
                      refine q_ifeq rfl rfl (fun c1124 => absurd c1124 (by decide)) (fun c1124 => ?_)
                      refine q_iconst rfl rfl ?_
                      refine q_goto rfl ?_
                      refine q_iret rfl rfl rfl ?_
                      refine ⟨_, rfl, ?_⟩
                      refine q_ifeq rfl rfl (fun c1125 => absurd c1125 (by decide)) (fun c1125 => ?_)
                      refine q_icc3 (z := 3) rfl rfl rfl rfl rfl ?_
                      refine q_icc4 (z := 3) rfl rfl rfl rfl rfl ?_
                      refine q_goto rfl ?_
                      refine q_iload rfl rfl rfl ?_
                      refine q_aload_n rfl rfl rfl ?_
                      refine q_alen rfl rfl (by decide) rfl rfl (q_tn (z := 5) rfl ?_)
                      refine q_icge rfl rfl (fun c1126 => absurd c1126 (by decide)) (fun c1126 => ?_)
                      refine q_iload_n rfl rfl rfl ?_
                      refine q_iload rfl rfl rfl ?_
                      refine q_iushr rfl rfl (q_tn (z := 3) rfl ?_)
                      refine q_iconst rfl rfl ?_
                      refine q_iand rfl rfl (q_tn (z := 1) rfl ?_)
                      refine q_ifeq rfl rfl (fun c1127 => absurd c1127 (by decide)) (fun c1127 => ?_)
                      refine q_aload_n rfl rfl rfl ?_
                      refine q_iload rfl rfl rfl ?_
                      refine q_lald rfl rfl (by decide) rfl (by decide) (q_tnl (z := 1074791425) rfl ?_)
                      refine q_iload_n rfl rfl rfl ?_
                      refine q_nS2 rfl rfl (Or.inr rfl) rfl rfl ⟨rfl, rfl⟩ rfl ?_
                      change PQ _ _ _ mm_X11_says 0 [.long 1074791425, pm_un, .int 30] [] _ _ 0 0 _
                      refine q_lload_n rfl rfl rfl ?_
                      refine q_iload_n rfl rfl rfl ?_
                      refine q_lushr rfl rfl (q_tnl (z := 1) rfl ?_)
                      refine q_lconst rfl rfl ?_
                      refine q_land rfl rfl (q_tnl (z := 1) rfl ?_)
                      refine q_lconst rfl rfl ?_
                      refine q_lcmp rfl rfl (q_tn (z := 1) rfl ?_)
                      refine q_ifeq rfl rfl (fun c1128 => absurd c1128 (by decide)) (fun c1128 => ?_)
                      refine q_iconst rfl rfl ?_
                      refine q_goto rfl ?_
                      refine q_iret rfl rfl rfl ?_
                      refine ⟨_, rfl, ?_⟩
                      refine q_ifeq rfl rfl (fun c1129 => absurd c1129 (by decide)) (fun c1129 => ?_)
                      refine q_icc3 (z := 4) rfl rfl rfl rfl rfl ?_
                      refine q_icc4 (z := 4) rfl rfl rfl rfl rfl ?_
                      refine q_goto rfl ?_
                      refine q_iload rfl rfl rfl ?_
                      refine q_aload_n rfl rfl rfl ?_
                      refine q_alen rfl rfl (by decide) rfl rfl (q_tn (z := 5) rfl ?_)
                      refine q_icge rfl rfl (fun c1130 => absurd c1130 (by decide)) (fun c1130 => ?_)
                      refine q_iload_n rfl rfl rfl ?_
                      refine q_iload rfl rfl rfl ?_
                      refine q_iushr rfl rfl (q_tn (z := 1) rfl ?_)
                      refine q_iconst rfl rfl ?_
                      refine q_iand rfl rfl (q_tn (z := 1) rfl ?_)
                      refine q_ifeq rfl rfl (fun c1131 => absurd c1131 (by decide)) (fun c1131 => ?_)
                      refine q_aload_n rfl rfl rfl ?_
                      refine q_iload rfl rfl rfl ?_
                      refine q_lald rfl rfl (by decide) rfl (by decide) (q_tnl (z := 1074791425) rfl ?_)
                      refine q_iload_n rfl rfl rfl ?_
                      refine q_nS2 rfl rfl (Or.inr rfl) rfl rfl ⟨rfl, rfl⟩ rfl ?_
                      change PQ _ _ _ mm_X11_says 0 [.long 1074791425, pm_un, .int 30] [] _ _ 0 0 _
                      refine q_lload_n rfl rfl rfl ?_
                      refine q_iload_n rfl rfl rfl ?_
                      refine q_lushr rfl rfl (q_tnl (z := 1) rfl ?_)
                      refine q_lconst rfl rfl ?_
                      refine q_land rfl rfl (q_tnl (z := 1) rfl ?_)
                      refine q_lconst rfl rfl ?_
                      refine q_lcmp rfl rfl (q_tn (z := 1) rfl ?_)
                      refine q_ifeq rfl rfl (fun c1132 => absurd c1132 (by decide)) (fun c1132 => ?_)
                      refine q_iconst rfl rfl ?_
                      refine q_goto rfl ?_
                      refine q_iret rfl rfl rfl ?_
                      refine ⟨_, rfl, ?_⟩
                      refine q_ifeq rfl rfl (fun c1133 => absurd c1133 (by decide)) (fun c1133 => ?_)
                      refine q_icc3 (z := 5) rfl rfl rfl rfl rfl ?_
                      refine q_icc4 (z := 5) rfl rfl rfl rfl rfl ?_
                      refine q_goto rfl ?_
                      refine q_iload rfl rfl rfl ?_
                      refine q_aload_n rfl rfl rfl ?_
                      refine q_alen rfl rfl (by decide) rfl rfl (q_tn (z := 5) rfl ?_)
                      refine q_icge rfl rfl (fun c1134 => ?_) (fun c1134 => absurd (by decide) c1134)
                      refine q_iload_n rfl rfl rfl ?_
                      refine q_iload_n rfl rfl rfl ?_
                      refine q_nS1 rfl rfl (Or.inl rfl) rfl rfl ⟨rfl, rfl⟩ rfl ?_
                      change PQ _ _ _ mm_J6_bitCount_0f7a4 0 [.int 31] [] _ _ 0 0 _
                      refine q_iload_n rfl rfl rfl ?_
                      refine q_iload_n rfl rfl rfl ?_
                      refine q_iconst rfl rfl ?_
                      refine q_iushr rfl rfl (q_tn (z := 15) rfl ?_)
                      refine q_ldcw rfl rfl ?_
                      refine q_iand rfl rfl (q_tn (z := 5) rfl ?_)
                      refine q_isub rfl rfl (q_tn (z := 26) rfl ?_)
                      refine q_ist0n rfl rfl rfl ?_
                      refine q_iload_n rfl rfl rfl ?_
                      refine q_ldcw rfl rfl ?_
                      refine q_iand rfl rfl (q_tn (z := 18) rfl ?_)
                      refine q_iload_n rfl rfl rfl ?_
                      refine q_iconst rfl rfl ?_
                      refine q_iushr rfl rfl (q_tn (z := 6) rfl ?_)
                      refine q_ldcw rfl rfl ?_
                      refine q_iand rfl rfl (q_tn (z := 2) rfl ?_)
                      refine q_iadd rfl rfl (q_tn (z := 20) rfl ?_)
                      refine q_ist0n rfl rfl rfl ?_
                      refine q_iload_n rfl rfl rfl ?_
                      refine q_iload_n rfl rfl rfl ?_
                      refine q_iconst rfl rfl ?_
                      refine q_iushr rfl rfl (q_tn (z := 1) rfl ?_)
                      refine q_iadd rfl rfl (q_tn (z := 21) rfl ?_)
                      refine q_ldcw rfl rfl ?_
                      refine q_iand rfl rfl (q_tn (z := 5) rfl ?_)
                      refine q_ist0n rfl rfl rfl ?_
                      refine q_iload_n rfl rfl rfl ?_
                      refine q_iload_n rfl rfl rfl ?_
                      refine q_bipush rfl rfl ?_
                      refine q_iushr rfl rfl (q_tn (z := 0) rfl ?_)
                      refine q_iadd rfl rfl (q_tn (z := 5) rfl ?_)
                      refine q_ist0n rfl rfl rfl ?_
                      refine q_iload_n rfl rfl rfl ?_
                      refine q_iload_n rfl rfl rfl ?_
                      refine q_bipush rfl rfl ?_
                      refine q_iushr rfl rfl (q_tn (z := 0) rfl ?_)
                      refine q_iadd rfl rfl (q_tn (z := 5) rfl ?_)
                      refine q_ist0n rfl rfl rfl ?_
                      refine q_iload_n rfl rfl rfl ?_
                      refine q_bipush rfl rfl ?_
                      refine q_iand rfl rfl (q_tn (z := 5) rfl ?_)
                      refine q_iret rfl rfl trivial ?_
                      refine ⟨_, rfl, ?_⟩
                      refine q_iload_n rfl rfl rfl ?_
                      refine q_isub rfl rfl (q_tn (z := 0) rfl ?_)
                      refine q_mmax (z := 5) rfl om_gp rfl rfl rfl ?_
                      refine q_iret rfl rfl trivial ?_
                      refine ⟨_, rfl, ?_⟩
                      refine q_ist6 rfl rfl rfl rfl ?_
                      refine q_aload_n rfl rfl rfl ?_
                      refine q_getf rfl rfl (by decide) (FW_42 S hW) rfl ?_
                      refine q_iload rfl rfl rfl ?_
                      refine q_nS2 rfl rfl (Or.inr rfl) rfl rfl ⟨rfl, rfl⟩ rfl ?_
                      change PQ _ _ _ mm_X11_says 0 [.long 0, pm_un, .int 30] [] _ _ 0 0 _
                      refine q_lload_n rfl rfl rfl ?_
                      refine q_iload_n rfl rfl rfl ?_
                      refine q_lushr rfl rfl (q_tnl (z := 0) rfl ?_)
                      refine q_lconst rfl rfl ?_
                      refine q_land rfl rfl (q_tnl (z := 0) rfl ?_)
                      refine q_lconst rfl rfl ?_
                      refine q_lcmp rfl rfl (q_tn (z := 0) rfl ?_)
                      refine q_ifeq rfl rfl (fun c1135 => ?_) (fun c1135 => absurd (by decide) c1135)
                      refine q_iconst rfl rfl ?_
                      refine q_iret rfl rfl rfl ?_
                      refine ⟨_, rfl, ?_⟩
                      refine q_ifne rfl rfl (fun c1136 => ?_) (fun c1136 => absurd (by decide) c1136)
                      refine q_iload rfl rfl rfl ?_
                      refine q_iload rfl rfl rfl ?_
                      refine q_icge rfl rfl (fun c1137 => ?_) (fun c1137 => absurd (by decide) c1137)
                      refine q_icc5 (z := 31) rfl rfl rfl rfl rfl ?_
                      refine q_goto rfl ?_
                      refine q_iload rfl rfl rfl ?_
                      refine q_bipush rfl rfl ?_
                      refine q_icge rfl rfl (fun c1138 => absurd c1138 (by decide)) (fun c1138 => ?_)
                      refine q_aload_n rfl rfl rfl ?_
                      refine q_iload_n rfl rfl rfl ?_
                      refine q_iload rfl rfl rfl ?_
                      refine q_nS3 rfl rfl (Or.inl rfl) rfl rfl ⟨rfl, rfl⟩ rfl ?_
                      change PQ _ _ _ mm_X3_greaterPart 0 [.ref 45, .int 31, .int 31, pm_un, pm_un] [] _ _ 0 0 _
                      refine q_iconst rfl rfl ?_
                      refine q_ist3n rfl rfl rfl rfl ?_
                      refine q_iconst rfl rfl ?_
                      refine q_ist4 rfl rfl rfl rfl ?_
                      refine q_iload rfl rfl rfl ?_
                      refine q_aload_n rfl rfl rfl ?_
                      refine q_alen rfl rfl (by decide) rfl rfl (q_tn (z := 5) rfl ?_)
                      refine q_icge rfl rfl (fun c1139 => absurd c1139 (by decide)) (fun c1139 => ?_)
                      refine q_iload_n rfl rfl rfl ?_
                      refine q_iload rfl rfl rfl ?_
                      refine q_iushr rfl rfl (q_tn (z := 31) rfl ?_)
                      refine q_iconst rfl rfl ?_
                      refine q_iand rfl rfl (q_tn (z := 1) rfl ?_)
                      refine q_ifeq rfl rfl (fun c1140 => absurd c1140 (by decide)) (fun c1140 => ?_)
                      refine q_aload_n rfl rfl rfl ?_
                      refine q_iload rfl rfl rfl ?_
                      refine q_lald rfl rfl (by decide) rfl (by decide) (q_tnl (z := 1074791425) rfl ?_)
                      refine q_iload_n rfl rfl rfl ?_
                      refine q_nS2 rfl rfl (Or.inr rfl) rfl rfl ⟨rfl, rfl⟩ rfl ?_
                      change PQ _ _ _ mm_X11_says 0 [.long 1074791425, pm_un, .int 31] [] _ _ 0 0 _
                      refine q_lload_n rfl rfl rfl ?_
                      refine q_iload_n rfl rfl rfl ?_
                      refine q_lushr rfl rfl (q_tnl (z := 0) rfl ?_)
                      refine q_lconst rfl rfl ?_
                      refine q_land rfl rfl (q_tnl (z := 0) rfl ?_)
                      refine q_lconst rfl rfl ?_
                      refine q_lcmp rfl rfl (q_tn (z := 0) rfl ?_)
                      refine q_ifeq rfl rfl (fun c1141 => ?_) (fun c1141 => absurd (by decide) c1141)
                      refine q_iconst rfl rfl ?_
                      refine q_iret rfl rfl rfl ?_
                      refine ⟨_, rfl, ?_⟩
                      refine q_ifeq rfl rfl (fun c1142 => ?_) (fun c1142 => absurd (by decide) c1142)
                      refine q_icc4 (z := 1) rfl rfl rfl rfl rfl ?_
                      refine q_goto rfl ?_
                      refine q_iload rfl rfl rfl ?_
                      refine q_aload_n rfl rfl rfl ?_
                      refine q_alen rfl rfl (by decide) rfl rfl (q_tn (z := 5) rfl ?_)
                      refine q_icge rfl rfl (fun c1143 => absurd c1143 (by decide)) (fun c1143 => ?_)
                      refine q_iload_n rfl rfl rfl ?_
                      refine q_iload rfl rfl rfl ?_
                      refine q_iushr rfl rfl (q_tn (z := 15) rfl ?_)
                      refine q_iconst rfl rfl ?_
                      refine q_iand rfl rfl (q_tn (z := 1) rfl ?_)
                      refine q_ifeq rfl rfl (fun c1144 => absurd c1144 (by decide)) (fun c1144 => ?_)
                      refine q_aload_n rfl rfl rfl ?_
                      refine q_iload rfl rfl rfl ?_
                      refine q_lald rfl rfl (by decide) rfl (by decide) (q_tnl (z := 1074791425) rfl ?_)
                      refine q_iload_n rfl rfl rfl ?_
                      refine q_nS2 rfl rfl (Or.inr rfl) rfl rfl ⟨rfl, rfl⟩ rfl ?_
                      change PQ _ _ _ mm_X11_says 0 [.long 1074791425, pm_un, .int 31] [] _ _ 0 0 _
                      refine q_lload_n rfl rfl rfl ?_
                      refine q_iload_n rfl rfl rfl ?_
                      refine q_lushr rfl rfl (q_tnl (z := 0) rfl ?_)
                      refine q_lconst rfl rfl ?_
                      refine q_land rfl rfl (q_tnl (z := 0) rfl ?_)
                      refine q_lconst rfl rfl ?_
                      refine q_lcmp rfl rfl (q_tn (z := 0) rfl ?_)
                      refine q_ifeq rfl rfl (fun c1145 => ?_) (fun c1145 => absurd (by decide) c1145)
                      refine q_iconst rfl rfl ?_
                      refine q_iret rfl rfl rfl ?_
                      refine ⟨_, rfl, ?_⟩
                      refine q_ifeq rfl rfl (fun c1146 => ?_) (fun c1146 => absurd (by decide) c1146)
                      refine q_icc4 (z := 2) rfl rfl rfl rfl rfl ?_
                      refine q_goto rfl ?_
                      refine q_iload rfl rfl rfl ?_
                      refine q_aload_n rfl rfl rfl ?_
                      refine q_alen rfl rfl (by decide) rfl rfl (q_tn (z := 5) rfl ?_)
                      refine q_icge rfl rfl (fun c1147 => absurd c1147 (by decide)) (fun c1147 => ?_)
                      refine q_iload_n rfl rfl rfl ?_
                      refine q_iload rfl rfl rfl ?_
                      refine q_iushr rfl rfl (q_tn (z := 7) rfl ?_)
                      refine q_iconst rfl rfl ?_
                      refine q_iand rfl rfl (q_tn (z := 1) rfl ?_)
                      refine q_ifeq rfl rfl (fun c1148 => absurd c1148 (by decide)) (fun c1148 => ?_)
                      refine q_aload_n rfl rfl rfl ?_
                      refine q_iload rfl rfl rfl ?_
                      refine q_lald rfl rfl (by decide) rfl (by decide) (q_tnl (z := 1074791425) rfl ?_)
                      refine q_iload_n rfl rfl rfl ?_
                      refine q_nS2 rfl rfl (Or.inr rfl) rfl rfl ⟨rfl, rfl⟩ rfl ?_
                      change PQ _ _ _ mm_X11_says 0 [.long 1074791425, pm_un, .int 31] [] _ _ 0 0 _
                      refine q_lload_n rfl rfl rfl ?_
                      refine q_iload_n rfl rfl rfl ?_
                      refine q_lushr rfl rfl (q_tnl (z := 0) rfl ?_)
                      refine q_lconst rfl rfl ?_
                      refine q_land rfl rfl (q_tnl (z := 0) rfl ?_)
                      refine q_lconst rfl rfl ?_
                      refine q_lcmp rfl rfl (q_tn (z := 0) rfl ?_)
                      refine q_ifeq rfl rfl (fun c1149 => ?_) (fun c1149 => absurd (by decide) c1149)
                      refine q_iconst rfl rfl ?_
                      refine q_iret rfl rfl rfl ?_
                      refine ⟨_, rfl, ?_⟩
                      refine q_ifeq rfl rfl (fun c1150 => ?_) (fun c1150 => absurd (by decide) c1150)
                      refine q_icc4 (z := 3) rfl rfl rfl rfl rfl ?_
                      refine q_goto rfl ?_
                      refine q_iload rfl rfl rfl ?_
                      refine q_aload_n rfl rfl rfl ?_
                      refine q_alen rfl rfl (by decide) rfl rfl (q_tn (z := 5) rfl ?_)
                      refine q_icge rfl rfl (fun c1151 => absurd c1151 (by decide)) (fun c1151 => ?_)
                      refine q_iload_n rfl rfl rfl ?_
                      refine q_iload rfl rfl rfl ?_
                      refine q_iushr rfl rfl (q_tn (z := 3) rfl ?_)
                      refine q_iconst rfl rfl ?_
                      refine q_iand rfl rfl (q_tn (z := 1) rfl ?_)
                      refine q_ifeq rfl rfl (fun c1152 => absurd c1152 (by decide)) (fun c1152 => ?_)
                      refine q_aload_n rfl rfl rfl ?_
                      refine q_iload rfl rfl rfl ?_
                      refine q_lald rfl rfl (by decide) rfl (by decide) (q_tnl (z := 1074791425) rfl ?_)
                      refine q_iload_n rfl rfl rfl ?_
                      refine q_nS2 rfl rfl (Or.inr rfl) rfl rfl ⟨rfl, rfl⟩ rfl ?_
                      change PQ _ _ _ mm_X11_says 0 [.long 1074791425, pm_un, .int 31] [] _ _ 0 0 _
                      refine q_lload_n rfl rfl rfl ?_
                      refine q_iload_n rfl rfl rfl ?_
                      refine q_lushr rfl rfl (q_tnl (z := 0) rfl ?_)
                      refine q_lconst rfl rfl ?_
                      refine q_land rfl rfl (q_tnl (z := 0) rfl ?_)
                      refine q_lconst rfl rfl ?_
                      refine q_lcmp rfl rfl (q_tn (z := 0) rfl ?_)
                      refine q_ifeq rfl rfl (fun c1153 => ?_) (fun c1153 => absurd (by decide) c1153)
                      refine q_iconst rfl rfl ?_
                      refine q_iret rfl rfl rfl ?_
                      refine ⟨_, rfl, ?_⟩
                      refine q_ifeq rfl rfl (fun c1154 => ?_) (fun c1154 => absurd (by decide) c1154)
                      refine q_icc4 (z := 4) rfl rfl rfl rfl rfl ?_
                      refine q_goto rfl ?_
                      refine q_iload rfl rfl rfl ?_
                      refine q_aload_n rfl rfl rfl ?_
                      refine q_alen rfl rfl (by decide) rfl rfl (q_tn (z := 5) rfl ?_)
                      refine q_icge rfl rfl (fun c1155 => absurd c1155 (by decide)) (fun c1155 => ?_)
                      refine q_iload_n rfl rfl rfl ?_
                      refine q_iload rfl rfl rfl ?_
                      refine q_iushr rfl rfl (q_tn (z := 1) rfl ?_)
                      refine q_iconst rfl rfl ?_
                      refine q_iand rfl rfl (q_tn (z := 1) rfl ?_)
                      refine q_ifeq rfl rfl (fun c1156 => absurd c1156 (by decide)) (fun c1156 => ?_)
                      refine q_aload_n rfl rfl rfl ?_
                      refine q_iload rfl rfl rfl ?_
                      refine q_lald rfl rfl (by decide) rfl (by decide) (q_tnl (z := 1074791425) rfl ?_)
                      refine q_iload_n rfl rfl rfl ?_
                      refine q_nS2 rfl rfl (Or.inr rfl) rfl rfl ⟨rfl, rfl⟩ rfl ?_
                      change PQ _ _ _ mm_X11_says 0 [.long 1074791425, pm_un, .int 31] [] _ _ 0 0 _
                      refine q_lload_n rfl rfl rfl ?_
                      refine q_iload_n rfl rfl rfl ?_
                      refine q_lushr rfl rfl (q_tnl (z := 0) rfl ?_)
                      refine q_lconst rfl rfl ?_
                      refine q_land rfl rfl (q_tnl (z := 0) rfl ?_)
                      refine q_lconst rfl rfl ?_
                      refine q_lcmp rfl rfl (q_tn (z := 0) rfl ?_)
                      refine q_ifeq rfl rfl (fun c1157 => ?_) (fun c1157 => absurd (by decide) c1157)
                      refine q_iconst rfl rfl ?_
                      refine q_iret rfl rfl rfl ?_
                      refine ⟨_, rfl, ?_⟩
                      refine q_ifeq rfl rfl (fun c1158 => ?_) (fun c1158 => absurd (by decide) c1158)
                      refine q_icc4 (z := 5) rfl rfl rfl rfl rfl ?_
                      refine q_goto rfl ?_
                      refine q_iload rfl rfl rfl ?_
                      refine q_aload_n rfl rfl rfl ?_
                      refine q_alen rfl rfl (by decide) rfl rfl (q_tn (z := 5) rfl ?_)
                      refine q_icge rfl rfl (fun c1159 => ?_) (fun c1159 => absurd (by decide) c1159)
                      refine q_iload_n rfl rfl rfl ?_
                      refine q_iload_n rfl rfl rfl ?_
                      refine q_nS1 rfl rfl (Or.inl rfl) rfl rfl ⟨rfl, rfl⟩ rfl ?_
                      change PQ _ _ _ mm_J6_bitCount_0f7a4 0 [.int 31] [] _ _ 0 0 _
                      refine q_iload_n rfl rfl rfl ?_
                      refine q_iload_n rfl rfl rfl ?_
                      refine q_iconst rfl rfl ?_
                      refine q_iushr rfl rfl (q_tn (z := 15) rfl ?_)
                      refine q_ldcw rfl rfl ?_
                      refine q_iand rfl rfl (q_tn (z := 5) rfl ?_)
                      refine q_isub rfl rfl (q_tn (z := 26) rfl ?_)
                      refine q_ist0n rfl rfl rfl ?_
                      refine q_iload_n rfl rfl rfl ?_
                      refine q_ldcw rfl rfl ?_
                      refine q_iand rfl rfl (q_tn (z := 18) rfl ?_)
                      refine q_iload_n rfl rfl rfl ?_
                      refine q_iconst rfl rfl ?_
                      refine q_iushr rfl rfl (q_tn (z := 6) rfl ?_)
                      refine q_ldcw rfl rfl ?_
                      refine q_iand rfl rfl (q_tn (z := 2) rfl ?_)
                      refine q_iadd rfl rfl (q_tn (z := 20) rfl ?_)
                      refine q_ist0n rfl rfl rfl ?_
                      refine q_iload_n rfl rfl rfl ?_
                      refine q_iload_n rfl rfl rfl ?_
                      refine q_iconst rfl rfl ?_
                      refine q_iushr rfl rfl (q_tn (z := 1) rfl ?_)
                      refine q_iadd rfl rfl (q_tn (z := 21) rfl ?_)
                      refine q_ldcw rfl rfl ?_
                      refine q_iand rfl rfl (q_tn (z := 5) rfl ?_)
                      refine q_ist0n rfl rfl rfl ?_
                      refine q_iload_n rfl rfl rfl ?_
                      refine q_iload_n rfl rfl rfl ?_
                      refine q_bipush rfl rfl ?_
                      refine q_iushr rfl rfl (q_tn (z := 0) rfl ?_)
                      refine q_iadd rfl rfl (q_tn (z := 5) rfl ?_)
                      refine q_ist0n rfl rfl rfl ?_
                      refine q_iload_n rfl rfl rfl ?_
                      refine q_iload_n rfl rfl rfl ?_
                      refine q_bipush rfl rfl ?_
                      refine q_iushr rfl rfl (q_tn (z := 0) rfl ?_)
                      refine q_iadd rfl rfl (q_tn (z := 5) rfl ?_)
                      refine q_ist0n rfl rfl rfl ?_
                      refine q_iload_n rfl rfl rfl ?_
                      refine q_bipush rfl rfl ?_
                      refine q_iand rfl rfl (q_tn (z := 5) rfl ?_)
                      refine q_iret rfl rfl trivial ?_
                      refine ⟨_, rfl, ?_⟩
                      refine q_iload_n rfl rfl rfl ?_
                      refine q_isub rfl rfl (q_tn (z := 5) rfl ?_)
                      refine q_mmax (z := 5) rfl om_gp rfl rfl rfl ?_
                      refine q_iret rfl rfl trivial ?_
                      refine ⟨_, rfl, ?_⟩
                      refine q_ist6 rfl rfl rfl rfl ?_
                      refine q_aload_n rfl rfl rfl ?_
                      refine q_getf rfl rfl (by decide) (FW_42 S hW) rfl ?_
                      refine q_iload rfl rfl rfl ?_
                      refine q_nS2 rfl rfl (Or.inr rfl) rfl rfl ⟨rfl, rfl⟩ rfl ?_
                      change PQ _ _ _ mm_X11_says 0 [.long 0, pm_un, .int 31] [] _ _ 0 0 _
                      refine q_lload_n rfl rfl rfl ?_
                      refine q_iload_n rfl rfl rfl ?_
                      refine q_lushr rfl rfl (q_tnl (z := 0) rfl ?_)
                      refine q_lconst rfl rfl ?_
                      refine q_land rfl rfl (q_tnl (z := 0) rfl ?_)
                      refine q_lconst rfl rfl ?_
                      refine q_lcmp rfl rfl (q_tn (z := 0) rfl ?_)
                      refine q_ifeq rfl rfl (fun c1160 => ?_) (fun c1160 => absurd (by decide) c1160)
                      refine q_iconst rfl rfl ?_
                      refine q_iret rfl rfl rfl ?_
                      refine ⟨_, rfl, ?_⟩
                      refine q_ifne rfl rfl (fun c1161 => ?_) (fun c1161 => absurd (by decide) c1161)
                      refine q_iload rfl rfl rfl ?_
                      refine q_iload rfl rfl rfl ?_
                      refine q_icge rfl rfl (fun c1162 => ?_) (fun c1162 => absurd (by decide) c1162)
                      refine q_icc5 (z := 32) rfl rfl rfl rfl rfl ?_
                      refine q_goto rfl ?_
                      refine q_iload rfl rfl rfl ?_
                      refine q_bipush rfl rfl ?_
                      refine q_icge rfl rfl (fun c1163 => absurd c1163 (by decide)) (fun c1163 => ?_)
                      refine q_aload_n rfl rfl rfl ?_
                      refine q_iload_n rfl rfl rfl ?_
                      refine q_iload rfl rfl rfl ?_
                      refine q_nS3 rfl rfl (Or.inl rfl) rfl rfl ⟨rfl, rfl⟩ rfl ?_
                      change PQ _ _ _ mm_X3_greaterPart 0 [.ref 45, .int 31, .int 32, pm_un, pm_un] [] _ _ 0 0 _
                      refine q_iconst rfl rfl ?_
                      refine q_ist3n rfl rfl rfl rfl ?_
                      refine q_iconst rfl rfl ?_
                      refine q_ist4 rfl rfl rfl rfl ?_
                      refine q_iload rfl rfl rfl ?_
                      refine q_aload_n rfl rfl rfl ?_
                      refine q_alen rfl rfl (by decide) rfl rfl (q_tn (z := 5) rfl ?_)
                      refine q_icge rfl rfl (fun c1164 => absurd c1164 (by decide)) (fun c1164 => ?_)
                      refine q_iload_n rfl rfl rfl ?_
                      refine q_iload rfl rfl rfl ?_
                      refine q_iushr rfl rfl (q_tn (z := 31) rfl ?_)
                      refine q_iconst rfl rfl ?_
                      refine q_iand rfl rfl (q_tn (z := 1) rfl ?_)
                      refine q_ifeq rfl rfl (fun c1165 => absurd c1165 (by decide)) (fun c1165 => ?_)
                      refine q_aload_n rfl rfl rfl ?_
                      refine q_iload rfl rfl rfl ?_
                      refine q_lald rfl rfl (by decide) rfl (by decide) (q_tnl (z := 1074791425) rfl ?_)
                      refine q_iload_n rfl rfl rfl ?_
                      refine q_nS2 rfl rfl (Or.inr rfl) rfl rfl ⟨rfl, rfl⟩ rfl ?_
                      change PQ _ _ _ mm_X11_says 0 [.long 1074791425, pm_un, .int 32] [] _ _ 0 0 _
                      refine q_lload_n rfl rfl rfl ?_
                      refine q_iload_n rfl rfl rfl ?_
                      refine q_lushr rfl rfl (q_tnl (z := 0) rfl ?_)
                      refine q_lconst rfl rfl ?_
                      refine q_land rfl rfl (q_tnl (z := 0) rfl ?_)
                      refine q_lconst rfl rfl ?_
                      refine q_lcmp rfl rfl (q_tn (z := 0) rfl ?_)
                      refine q_ifeq rfl rfl (fun c1166 => ?_) (fun c1166 => absurd (by decide) c1166)
                      refine q_iconst rfl rfl ?_
                      refine q_iret rfl rfl rfl ?_
                      refine ⟨_, rfl, ?_⟩
                      refine q_ifeq rfl rfl (fun c1167 => ?_) (fun c1167 => absurd (by decide) c1167)
                      refine q_icc4 (z := 1) rfl rfl rfl rfl rfl ?_
                      refine q_goto rfl ?_
                      refine q_iload rfl rfl rfl ?_
                      refine q_aload_n rfl rfl rfl ?_
                      refine q_alen rfl rfl (by decide) rfl rfl (q_tn (z := 5) rfl ?_)
                      refine q_icge rfl rfl (fun c1168 => absurd c1168 (by decide)) (fun c1168 => ?_)
                      refine q_iload_n rfl rfl rfl ?_
                      refine q_iload rfl rfl rfl ?_
                      refine q_iushr rfl rfl (q_tn (z := 15) rfl ?_)
                      refine q_iconst rfl rfl ?_
                      refine q_iand rfl rfl (q_tn (z := 1) rfl ?_)
                      refine q_ifeq rfl rfl (fun c1169 => absurd c1169 (by decide)) (fun c1169 => ?_)
                      refine q_aload_n rfl rfl rfl ?_
                      refine q_iload rfl rfl rfl ?_
                      refine q_lald rfl rfl (by decide) rfl (by decide) (q_tnl (z := 1074791425) rfl ?_)
                      refine q_iload_n rfl rfl rfl ?_
                      refine q_nS2 rfl rfl (Or.inr rfl) rfl rfl ⟨rfl, rfl⟩ rfl ?_
                      change PQ _ _ _ mm_X11_says 0 [.long 1074791425, pm_un, .int 32] [] _ _ 0 0 _
                      refine q_lload_n rfl rfl rfl ?_
                      refine q_iload_n rfl rfl rfl ?_
                      refine q_lushr rfl rfl (q_tnl (z := 0) rfl ?_)
                      refine q_lconst rfl rfl ?_
                      refine q_land rfl rfl (q_tnl (z := 0) rfl ?_)
                      refine q_lconst rfl rfl ?_
                      refine q_lcmp rfl rfl (q_tn (z := 0) rfl ?_)
                      refine q_ifeq rfl rfl (fun c1170 => ?_) (fun c1170 => absurd (by decide) c1170)
                      refine q_iconst rfl rfl ?_
                      refine q_iret rfl rfl rfl ?_
                      refine ⟨_, rfl, ?_⟩
                      refine q_ifeq rfl rfl (fun c1171 => ?_) (fun c1171 => absurd (by decide) c1171)
                      refine q_icc4 (z := 2) rfl rfl rfl rfl rfl ?_
                      refine q_goto rfl ?_
                      refine q_iload rfl rfl rfl ?_
                      refine q_aload_n rfl rfl rfl ?_
                      refine q_alen rfl rfl (by decide) rfl rfl (q_tn (z := 5) rfl ?_)
                      refine q_icge rfl rfl (fun c1172 => absurd c1172 (by decide)) (fun c1172 => ?_)
                      refine q_iload_n rfl rfl rfl ?_
                      refine q_iload rfl rfl rfl ?_
                      refine q_iushr rfl rfl (q_tn (z := 7) rfl ?_)
                      refine q_iconst rfl rfl ?_
                      refine q_iand rfl rfl (q_tn (z := 1) rfl ?_)
                      refine q_ifeq rfl rfl (fun c1173 => absurd c1173 (by decide)) (fun c1173 => ?_)
                      refine q_aload_n rfl rfl rfl ?_
                      refine q_iload rfl rfl rfl ?_
                      refine q_lald rfl rfl (by decide) rfl (by decide) (q_tnl (z := 1074791425) rfl ?_)
                      refine q_iload_n rfl rfl rfl ?_
                      refine q_nS2 rfl rfl (Or.inr rfl) rfl rfl ⟨rfl, rfl⟩ rfl ?_
                      change PQ _ _ _ mm_X11_says 0 [.long 1074791425, pm_un, .int 32] [] _ _ 0 0 _
                      refine q_lload_n rfl rfl rfl ?_
                      refine q_iload_n rfl rfl rfl ?_
                      refine q_lushr rfl rfl (q_tnl (z := 0) rfl ?_)
                      refine q_lconst rfl rfl ?_
                      refine q_land rfl rfl (q_tnl (z := 0) rfl ?_)
                      refine q_lconst rfl rfl ?_
                      refine q_lcmp rfl rfl (q_tn (z := 0) rfl ?_)
                      refine q_ifeq rfl rfl (fun c1174 => ?_) (fun c1174 => absurd (by decide) c1174)
                      refine q_iconst rfl rfl ?_
                      refine q_iret rfl rfl rfl ?_
                      refine ⟨_, rfl, ?_⟩
                      refine q_ifeq rfl rfl (fun c1175 => ?_) (fun c1175 => absurd (by decide) c1175)
                      refine q_icc4 (z := 3) rfl rfl rfl rfl rfl ?_
                      refine q_goto rfl ?_
                      refine q_iload rfl rfl rfl ?_
                      refine q_aload_n rfl rfl rfl ?_
                      refine q_alen rfl rfl (by decide) rfl rfl (q_tn (z := 5) rfl ?_)
                      refine q_icge rfl rfl (fun c1176 => absurd c1176 (by decide)) (fun c1176 => ?_)
                      refine q_iload_n rfl rfl rfl ?_
                      refine q_iload rfl rfl rfl ?_
                      refine q_iushr rfl rfl (q_tn (z := 3) rfl ?_)
                      refine q_iconst rfl rfl ?_
                      refine q_iand rfl rfl (q_tn (z := 1) rfl ?_)
                      refine q_ifeq rfl rfl (fun c1177 => absurd c1177 (by decide)) (fun c1177 => ?_)
                      refine q_aload_n rfl rfl rfl ?_
                      refine q_iload rfl rfl rfl ?_
                      refine q_lald rfl rfl (by decide) rfl (by decide) (q_tnl (z := 1074791425) rfl ?_)
                      refine q_iload_n rfl rfl rfl ?_
                      refine q_nS2 rfl rfl (Or.inr rfl) rfl rfl ⟨rfl, rfl⟩ rfl ?_
                      change PQ _ _ _ mm_X11_says 0 [.long 1074791425, pm_un, .int 32] [] _ _ 0 0 _
                      refine q_lload_n rfl rfl rfl ?_
                      refine q_iload_n rfl rfl rfl ?_
                      refine q_lushr rfl rfl (q_tnl (z := 0) rfl ?_)
                      refine q_lconst rfl rfl ?_
                      refine q_land rfl rfl (q_tnl (z := 0) rfl ?_)
                      refine q_lconst rfl rfl ?_
                      refine q_lcmp rfl rfl (q_tn (z := 0) rfl ?_)
                      refine q_ifeq rfl rfl (fun c1178 => ?_) (fun c1178 => absurd (by decide) c1178)
                      refine q_iconst rfl rfl ?_
                      refine q_iret rfl rfl rfl ?_
                      refine ⟨_, rfl, ?_⟩
                      refine q_ifeq rfl rfl (fun c1179 => ?_) (fun c1179 => absurd (by decide) c1179)
                      refine q_icc4 (z := 4) rfl rfl rfl rfl rfl ?_
                      refine q_goto rfl ?_
                      refine q_iload rfl rfl rfl ?_
                      refine q_aload_n rfl rfl rfl ?_
                      refine q_alen rfl rfl (by decide) rfl rfl (q_tn (z := 5) rfl ?_)
                      refine q_icge rfl rfl (fun c1180 => absurd c1180 (by decide)) (fun c1180 => ?_)
                      refine q_iload_n rfl rfl rfl ?_
                      refine q_iload rfl rfl rfl ?_
                      refine q_iushr rfl rfl (q_tn (z := 1) rfl ?_)
                      refine q_iconst rfl rfl ?_
                      refine q_iand rfl rfl (q_tn (z := 1) rfl ?_)
                      refine q_ifeq rfl rfl (fun c1181 => absurd c1181 (by decide)) (fun c1181 => ?_)
                      refine q_aload_n rfl rfl rfl ?_
                      refine q_iload rfl rfl rfl ?_
                      refine q_lald rfl rfl (by decide) rfl (by decide) (q_tnl (z := 1074791425) rfl ?_)
                      refine q_iload_n rfl rfl rfl ?_
                      refine q_nS2 rfl rfl (Or.inr rfl) rfl rfl ⟨rfl, rfl⟩ rfl ?_
                      change PQ _ _ _ mm_X11_says 0 [.long 1074791425, pm_un, .int 32] [] _ _ 0 0 _
                      refine q_lload_n rfl rfl rfl ?_
                      refine q_iload_n rfl rfl rfl ?_
                      refine q_lushr rfl rfl (q_tnl (z := 0) rfl ?_)
                      refine q_lconst rfl rfl ?_
                      refine q_land rfl rfl (q_tnl (z := 0) rfl ?_)
                      refine q_lconst rfl rfl ?_
                      refine q_lcmp rfl rfl (q_tn (z := 0) rfl ?_)
                      refine q_ifeq rfl rfl (fun c1182 => ?_) (fun c1182 => absurd (by decide) c1182)
                      refine q_iconst rfl rfl ?_
                      refine q_iret rfl rfl rfl ?_
                      refine ⟨_, rfl, ?_⟩
                      refine q_ifeq rfl rfl (fun c1183 => ?_) (fun c1183 => absurd (by decide) c1183)
                      refine q_icc4 (z := 5) rfl rfl rfl rfl rfl ?_
                      refine q_goto rfl ?_
                      refine q_iload rfl rfl rfl ?_
                      refine q_aload_n rfl rfl rfl ?_
                      refine q_alen rfl rfl (by decide) rfl rfl (q_tn (z := 5) rfl ?_)
                      refine q_icge rfl rfl (fun c1184 => ?_) (fun c1184 => absurd (by decide) c1184)
                      refine q_iload_n rfl rfl rfl ?_
                      refine q_iload_n rfl rfl rfl ?_
                      refine q_nS1 rfl rfl (Or.inl rfl) rfl rfl ⟨rfl, rfl⟩ rfl ?_
                      change PQ _ _ _ mm_J6_bitCount_0f7a4 0 [.int 31] [] _ _ 0 0 _
                      refine q_iload_n rfl rfl rfl ?_
                      refine q_iload_n rfl rfl rfl ?_
                      refine q_iconst rfl rfl ?_
                      refine q_iushr rfl rfl (q_tn (z := 15) rfl ?_)
                      refine q_ldcw rfl rfl ?_
                      refine q_iand rfl rfl (q_tn (z := 5) rfl ?_)
                      refine q_isub rfl rfl (q_tn (z := 26) rfl ?_)
                      refine q_ist0n rfl rfl rfl ?_
                      refine q_iload_n rfl rfl rfl ?_
                      refine q_ldcw rfl rfl ?_
                      refine q_iand rfl rfl (q_tn (z := 18) rfl ?_)
                      refine q_iload_n rfl rfl rfl ?_
                      refine q_iconst rfl rfl ?_
                      refine q_iushr rfl rfl (q_tn (z := 6) rfl ?_)
                      refine q_ldcw rfl rfl ?_
                      refine q_iand rfl rfl (q_tn (z := 2) rfl ?_)
                      refine q_iadd rfl rfl (q_tn (z := 20) rfl ?_)
                      refine q_ist0n rfl rfl rfl ?_
                      refine q_iload_n rfl rfl rfl ?_
                      refine q_iload_n rfl rfl rfl ?_
                      refine q_iconst rfl rfl ?_
                      refine q_iushr rfl rfl (q_tn (z := 1) rfl ?_)
                      refine q_iadd rfl rfl (q_tn (z := 21) rfl ?_)
                      refine q_ldcw rfl rfl ?_
                      refine q_iand rfl rfl (q_tn (z := 5) rfl ?_)
                      refine q_ist0n rfl rfl rfl ?_
                      refine q_iload_n rfl rfl rfl ?_
                      refine q_iload_n rfl rfl rfl ?_
                      refine q_bipush rfl rfl ?_
                      refine q_iushr rfl rfl (q_tn (z := 0) rfl ?_)
                      refine q_iadd rfl rfl (q_tn (z := 5) rfl ?_)
                      refine q_ist0n rfl rfl rfl ?_
                      refine q_iload_n rfl rfl rfl ?_
                      refine q_iload_n rfl rfl rfl ?_
                      refine q_bipush rfl rfl ?_
                      refine q_iushr rfl rfl (q_tn (z := 0) rfl ?_)
                      refine q_iadd rfl rfl (q_tn (z := 5) rfl ?_)
                      refine q_ist0n rfl rfl rfl ?_
                      refine q_iload_n rfl rfl rfl ?_
                      refine q_bipush rfl rfl ?_
                      refine q_iand rfl rfl (q_tn (z := 5) rfl ?_)
                      refine q_iret rfl rfl trivial ?_
                      refine ⟨_, rfl, ?_⟩
                      refine q_iload_n rfl rfl rfl ?_
                      refine q_isub rfl rfl (q_tn (z := 5) rfl ?_)
                      refine q_mmax (z := 5) rfl om_gp rfl rfl rfl ?_
                      refine q_iret rfl rfl trivial ?_
                      refine ⟨_, rfl, ?_⟩
                      refine q_ist6 rfl rfl rfl rfl ?_
                      refine q_aload_n rfl rfl rfl ?_
                      refine q_getf rfl rfl (by decide) (FW_42 S hW) rfl ?_
                      refine q_iload rfl rfl rfl ?_
                      refine q_nS2 rfl rfl (Or.inr rfl) rfl rfl ⟨rfl, rfl⟩ rfl ?_
                      change PQ _ _ _ mm_X11_says 0 [.long 0, pm_un, .int 32] [] _ _ 0 0 _
                      refine q_lload_n rfl rfl rfl ?_
                      refine q_iload_n rfl rfl rfl ?_
                      refine q_lushr rfl rfl (q_tnl (z := 0) rfl ?_)
                      refine q_lconst rfl rfl ?_
                      refine q_land rfl rfl (q_tnl (z := 0) rfl ?_)
                      refine q_lconst rfl rfl ?_
                      refine q_lcmp rfl rfl (q_tn (z := 0) rfl ?_)
                      refine q_ifeq rfl rfl (fun c1185 => ?_) (fun c1185 => absurd (by decide) c1185)
                      refine q_iconst rfl rfl ?_
                      refine q_iret rfl rfl rfl ?_
                      refine ⟨_, rfl, ?_⟩
                      refine q_ifne rfl rfl (fun c1186 => ?_) (fun c1186 => absurd (by decide) c1186)
                      refine q_iload rfl rfl rfl ?_
                      refine q_iload rfl rfl rfl ?_
                      refine q_icge rfl rfl (fun c1187 => ?_) (fun c1187 => absurd (by decide) c1187)
                      refine q_icc5 (z := 33) rfl rfl rfl rfl rfl ?_
                      refine q_goto rfl ?_
                      refine q_iload rfl rfl rfl ?_
                      refine q_bipush rfl rfl ?_
                      refine q_icge rfl rfl (fun c1188 => absurd c1188 (by decide)) (fun c1188 => ?_)
                      refine q_aload_n rfl rfl rfl ?_
                      refine q_iload_n rfl rfl rfl ?_
                      refine q_iload rfl rfl rfl ?_
                      refine q_nS3 rfl rfl (Or.inl rfl) rfl rfl ⟨rfl, rfl⟩ rfl ?_
                      change PQ _ _ _ mm_X3_greaterPart 0 [.ref 45, .int 31, .int 33, pm_un, pm_un] [] _ _ 0 0 _
                      refine q_iconst rfl rfl ?_
                      refine q_ist3n rfl rfl rfl rfl ?_
                      refine q_iconst rfl rfl ?_
                      refine q_ist4 rfl rfl rfl rfl ?_
                      refine q_iload rfl rfl rfl ?_
                      refine q_aload_n rfl rfl rfl ?_
                      refine q_alen rfl rfl (by decide) rfl rfl (q_tn (z := 5) rfl ?_)
                      refine q_icge rfl rfl (fun c1189 => absurd c1189 (by decide)) (fun c1189 => ?_)
                      refine q_iload_n rfl rfl rfl ?_
                      refine q_iload rfl rfl rfl ?_
                      refine q_iushr rfl rfl (q_tn (z := 31) rfl ?_)
                      refine q_iconst rfl rfl ?_
                      refine q_iand rfl rfl (q_tn (z := 1) rfl ?_)
                      refine q_ifeq rfl rfl (fun c1190 => absurd c1190 (by decide)) (fun c1190 => ?_)
                      refine q_aload_n rfl rfl rfl ?_
                      refine q_iload rfl rfl rfl ?_
                      refine q_lald rfl rfl (by decide) rfl (by decide) (q_tnl (z := 1074791425) rfl ?_)
                      refine q_iload_n rfl rfl rfl ?_
                      refine q_nS2 rfl rfl (Or.inr rfl) rfl rfl ⟨rfl, rfl⟩ rfl ?_
                      change PQ _ _ _ mm_X11_says 0 [.long 1074791425, pm_un, .int 33] [] _ _ 0 0 _
                      refine q_lload_n rfl rfl rfl ?_
                      refine q_iload_n rfl rfl rfl ?_
                      refine q_lushr rfl rfl (q_tnl (z := 0) rfl ?_)
                      refine q_lconst rfl rfl ?_
                      refine q_land rfl rfl (q_tnl (z := 0) rfl ?_)
                      refine q_lconst rfl rfl ?_
                      refine q_lcmp rfl rfl (q_tn (z := 0) rfl ?_)
                      refine q_ifeq rfl rfl (fun c1191 => ?_) (fun c1191 => absurd (by decide) c1191)
                      refine q_iconst rfl rfl ?_
                      refine q_iret rfl rfl rfl ?_
                      refine ⟨_, rfl, ?_⟩
                      refine q_ifeq rfl rfl (fun c1192 => ?_) (fun c1192 => absurd (by decide) c1192)
                      refine q_icc4 (z := 1) rfl rfl rfl rfl rfl ?_
                      refine q_goto rfl ?_
                      refine q_iload rfl rfl rfl ?_
                      refine q_aload_n rfl rfl rfl ?_
                      refine q_alen rfl rfl (by decide) rfl rfl (q_tn (z := 5) rfl ?_)
                      refine q_icge rfl rfl (fun c1193 => absurd c1193 (by decide)) (fun c1193 => ?_)
                      refine q_iload_n rfl rfl rfl ?_
                      refine q_iload rfl rfl rfl ?_
                      refine q_iushr rfl rfl (q_tn (z := 15) rfl ?_)
                      refine q_iconst rfl rfl ?_
                      refine q_iand rfl rfl (q_tn (z := 1) rfl ?_)
                      refine q_ifeq rfl rfl (fun c1194 => absurd c1194 (by decide)) (fun c1194 => ?_)
                      refine q_aload_n rfl rfl rfl ?_
                      refine q_iload rfl rfl rfl ?_
                      refine q_lald rfl rfl (by decide) rfl (by decide) (q_tnl (z := 1074791425) rfl ?_)
                      refine q_iload_n rfl rfl rfl ?_
                      refine q_nS2 rfl rfl (Or.inr rfl) rfl rfl ⟨rfl, rfl⟩ rfl ?_
                      change PQ _ _ _ mm_X11_says 0 [.long 1074791425, pm_un, .int 33] [] _ _ 0 0 _
                      refine q_lload_n rfl rfl rfl ?_
                      refine q_iload_n rfl rfl rfl ?_
                      refine q_lushr rfl rfl (q_tnl (z := 0) rfl ?_)
                      refine q_lconst rfl rfl ?_
                      refine q_land rfl rfl (q_tnl (z := 0) rfl ?_)
                      refine q_lconst rfl rfl ?_
                      refine q_lcmp rfl rfl (q_tn (z := 0) rfl ?_)
                      refine q_ifeq rfl rfl (fun c1195 => ?_) (fun c1195 => absurd (by decide) c1195)
                      refine q_iconst rfl rfl ?_
                      refine q_iret rfl rfl rfl ?_
                      refine ⟨_, rfl, ?_⟩
                      refine q_ifeq rfl rfl (fun c1196 => ?_) (fun c1196 => absurd (by decide) c1196)
                      refine q_icc4 (z := 2) rfl rfl rfl rfl rfl ?_
                      refine q_goto rfl ?_
                      refine q_iload rfl rfl rfl ?_
                      refine q_aload_n rfl rfl rfl ?_
                      refine q_alen rfl rfl (by decide) rfl rfl (q_tn (z := 5) rfl ?_)
                      refine q_icge rfl rfl (fun c1197 => absurd c1197 (by decide)) (fun c1197 => ?_)
                      refine q_iload_n rfl rfl rfl ?_
                      refine q_iload rfl rfl rfl ?_
                      refine q_iushr rfl rfl (q_tn (z := 7) rfl ?_)
                      refine q_iconst rfl rfl ?_
                      refine q_iand rfl rfl (q_tn (z := 1) rfl ?_)
                      refine q_ifeq rfl rfl (fun c1198 => absurd c1198 (by decide)) (fun c1198 => ?_)
                      refine q_aload_n rfl rfl rfl ?_
                      refine q_iload rfl rfl rfl ?_
                      refine q_lald rfl rfl (by decide) rfl (by decide) (q_tnl (z := 1074791425) rfl ?_)
                      refine q_iload_n rfl rfl rfl ?_
                      refine q_nS2 rfl rfl (Or.inr rfl) rfl rfl ⟨rfl, rfl⟩ rfl ?_
                      change PQ _ _ _ mm_X11_says 0 [.long 1074791425, pm_un, .int 33] [] _ _ 0 0 _
                      refine q_lload_n rfl rfl rfl ?_
                      refine q_iload_n rfl rfl rfl ?_
                      refine q_lushr rfl rfl (q_tnl (z := 0) rfl ?_)
                      refine q_lconst rfl rfl ?_
                      refine q_land rfl rfl (q_tnl (z := 0) rfl ?_)
                      refine q_lconst rfl rfl ?_
                      refine q_lcmp rfl rfl (q_tn (z := 0) rfl ?_)
                      refine q_ifeq rfl rfl (fun c1199 => ?_) (fun c1199 => absurd (by decide) c1199)
                      refine q_iconst rfl rfl ?_
                      refine q_iret rfl rfl rfl ?_
                      refine ⟨_, rfl, ?_⟩
                      refine q_ifeq rfl rfl (fun c1200 => ?_) (fun c1200 => absurd (by decide) c1200)
                      refine q_icc4 (z := 3) rfl rfl rfl rfl rfl ?_
                      refine q_goto rfl ?_
                      refine q_iload rfl rfl rfl ?_
                      refine q_aload_n rfl rfl rfl ?_
                      refine q_alen rfl rfl (by decide) rfl rfl (q_tn (z := 5) rfl ?_)
                      refine q_icge rfl rfl (fun c1201 => absurd c1201 (by decide)) (fun c1201 => ?_)
                      refine q_iload_n rfl rfl rfl ?_
                      refine q_iload rfl rfl rfl ?_
                      refine q_iushr rfl rfl (q_tn (z := 3) rfl ?_)
                      refine q_iconst rfl rfl ?_
                      refine q_iand rfl rfl (q_tn (z := 1) rfl ?_)
                      refine q_ifeq rfl rfl (fun c1202 => absurd c1202 (by decide)) (fun c1202 => ?_)
                      refine q_aload_n rfl rfl rfl ?_
                      refine q_iload rfl rfl rfl ?_
                      refine q_lald rfl rfl (by decide) rfl (by decide) (q_tnl (z := 1074791425) rfl ?_)
                      refine q_iload_n rfl rfl rfl ?_
                      refine q_nS2 rfl rfl (Or.inr rfl) rfl rfl ⟨rfl, rfl⟩ rfl ?_
                      change PQ _ _ _ mm_X11_says 0 [.long 1074791425, pm_un, .int 33] [] _ _ 0 0 _
                      refine q_lload_n rfl rfl rfl ?_
                      refine q_iload_n rfl rfl rfl ?_
                      refine q_lushr rfl rfl (q_tnl (z := 0) rfl ?_)
                      refine q_lconst rfl rfl ?_
                      refine q_land rfl rfl (q_tnl (z := 0) rfl ?_)
                      refine q_lconst rfl rfl ?_
                      refine q_lcmp rfl rfl (q_tn (z := 0) rfl ?_)
                      refine q_ifeq rfl rfl (fun c1203 => ?_) (fun c1203 => absurd (by decide) c1203)
                      refine q_iconst rfl rfl ?_
                      refine q_iret rfl rfl rfl ?_
                      refine ⟨_, rfl, ?_⟩
                      refine q_ifeq rfl rfl (fun c1204 => ?_) (fun c1204 => absurd (by decide) c1204)
                      refine q_icc4 (z := 4) rfl rfl rfl rfl rfl ?_
                      refine q_goto rfl ?_
                      refine q_iload rfl rfl rfl ?_
                      refine q_aload_n rfl rfl rfl ?_
                      refine q_alen rfl rfl (by decide) rfl rfl (q_tn (z := 5) rfl ?_)
                      refine q_icge rfl rfl (fun c1205 => absurd c1205 (by decide)) (fun c1205 => ?_)
                      refine q_iload_n rfl rfl rfl ?_
                      refine q_iload rfl rfl rfl ?_
                      refine q_iushr rfl rfl (q_tn (z := 1) rfl ?_)
                      refine q_iconst rfl rfl ?_
                      refine q_iand rfl rfl (q_tn (z := 1) rfl ?_)
                      refine q_ifeq rfl rfl (fun c1206 => absurd c1206 (by decide)) (fun c1206 => ?_)
                      refine q_aload_n rfl rfl rfl ?_
                      refine q_iload rfl rfl rfl ?_
                      refine q_lald rfl rfl (by decide) rfl (by decide) (q_tnl (z := 1074791425) rfl ?_)
                      refine q_iload_n rfl rfl rfl ?_
                      refine q_nS2 rfl rfl (Or.inr rfl) rfl rfl ⟨rfl, rfl⟩ rfl ?_
                      change PQ _ _ _ mm_X11_says 0 [.long 1074791425, pm_un, .int 33] [] _ _ 0 0 _
                      refine q_lload_n rfl rfl rfl ?_
                      refine q_iload_n rfl rfl rfl ?_
                      refine q_lushr rfl rfl (q_tnl (z := 0) rfl ?_)
                      refine q_lconst rfl rfl ?_
                      refine q_land rfl rfl (q_tnl (z := 0) rfl ?_)
                      refine q_lconst rfl rfl ?_
                      refine q_lcmp rfl rfl (q_tn (z := 0) rfl ?_)
                      refine q_ifeq rfl rfl (fun c1207 => ?_) (fun c1207 => absurd (by decide) c1207)
                      refine q_iconst rfl rfl ?_
                      refine q_iret rfl rfl rfl ?_
                      refine ⟨_, rfl, ?_⟩
                      refine q_ifeq rfl rfl (fun c1208 => ?_) (fun c1208 => absurd (by decide) c1208)
                      refine q_icc4 (z := 5) rfl rfl rfl rfl rfl ?_
                      refine q_goto rfl ?_
                      refine q_iload rfl rfl rfl ?_
                      refine q_aload_n rfl rfl rfl ?_
                      refine q_alen rfl rfl (by decide) rfl rfl (q_tn (z := 5) rfl ?_)
                      refine q_icge rfl rfl (fun c1209 => ?_) (fun c1209 => absurd (by decide) c1209)
                      refine q_iload_n rfl rfl rfl ?_
                      refine q_iload_n rfl rfl rfl ?_
                      refine q_nS1 rfl rfl (Or.inl rfl) rfl rfl ⟨rfl, rfl⟩ rfl ?_
                      change PQ _ _ _ mm_J6_bitCount_0f7a4 0 [.int 31] [] _ _ 0 0 _
                      refine q_iload_n rfl rfl rfl ?_
                      refine q_iload_n rfl rfl rfl ?_
                      refine q_iconst rfl rfl ?_
                      refine q_iushr rfl rfl (q_tn (z := 15) rfl ?_)
                      refine q_ldcw rfl rfl ?_
                      refine q_iand rfl rfl (q_tn (z := 5) rfl ?_)
                      refine q_isub rfl rfl (q_tn (z := 26) rfl ?_)
                      refine q_ist0n rfl rfl rfl ?_
                      refine q_iload_n rfl rfl rfl ?_
                      refine q_ldcw rfl rfl ?_
                      refine q_iand rfl rfl (q_tn (z := 18) rfl ?_)
                      refine q_iload_n rfl rfl rfl ?_
                      refine q_iconst rfl rfl ?_
                      refine q_iushr rfl rfl (q_tn (z := 6) rfl ?_)
                      refine q_ldcw rfl rfl ?_
                      refine q_iand rfl rfl (q_tn (z := 2) rfl ?_)
                      refine q_iadd rfl rfl (q_tn (z := 20) rfl ?_)
                      refine q_ist0n rfl rfl rfl ?_
                      refine q_iload_n rfl rfl rfl ?_
                      refine q_iload_n rfl rfl rfl ?_
                      refine q_iconst rfl rfl ?_
                      refine q_iushr rfl rfl (q_tn (z := 1) rfl ?_)
                      refine q_iadd rfl rfl (q_tn (z := 21) rfl ?_)
                      refine q_ldcw rfl rfl ?_
                      refine q_iand rfl rfl (q_tn (z := 5) rfl ?_)
                      refine q_ist0n rfl rfl rfl ?_
                      refine q_iload_n rfl rfl rfl ?_
                      refine q_iload_n rfl rfl rfl ?_
                      refine q_bipush rfl rfl ?_
                      refine q_iushr rfl rfl (q_tn (z := 0) rfl ?_)
                      refine q_iadd rfl rfl (q_tn (z := 5) rfl ?_)
                      refine q_ist0n rfl rfl rfl ?_
                      refine q_iload_n rfl rfl rfl ?_
                      refine q_iload_n rfl rfl rfl ?_
                      refine q_bipush rfl rfl ?_
                      refine q_iushr rfl rfl (q_tn (z := 0) rfl ?_)
                      refine q_iadd rfl rfl (q_tn (z := 5) rfl ?_)
                      refine q_ist0n rfl rfl rfl ?_
                      refine q_iload_n rfl rfl rfl ?_
                      refine q_bipush rfl rfl ?_
                      refine q_iand rfl rfl (q_tn (z := 5) rfl ?_)
                      refine q_iret rfl rfl trivial ?_
                      refine ⟨_, rfl, ?_⟩
                      refine q_iload_n rfl rfl rfl ?_
                      refine q_isub rfl rfl (q_tn (z := 5) rfl ?_)
                      refine q_mmax (z := 5) rfl om_gp rfl rfl rfl ?_
                      refine q_iret rfl rfl trivial ?_
                      refine ⟨_, rfl, ?_⟩
                      refine q_ist6 rfl rfl rfl rfl ?_
                      refine q_aload_n rfl rfl rfl ?_
                      refine q_getf rfl rfl (by decide) (FW_42 S hW) rfl ?_
                      refine q_iload rfl rfl rfl ?_
                      refine q_nS2 rfl rfl (Or.inr rfl) rfl rfl ⟨rfl, rfl⟩ rfl ?_
                      change PQ _ _ _ mm_X11_says 0 [.long 0, pm_un, .int 33] [] _ _ 0 0 _
                      refine q_lload_n rfl rfl rfl ?_
                      refine q_iload_n rfl rfl rfl ?_
                      refine q_lushr rfl rfl (q_tnl (z := 0) rfl ?_)
                      refine q_lconst rfl rfl ?_
                      refine q_land rfl rfl (q_tnl (z := 0) rfl ?_)
                      refine q_lconst rfl rfl ?_
                      refine q_lcmp rfl rfl (q_tn (z := 0) rfl ?_)
                      refine q_ifeq rfl rfl (fun c1210 => ?_) (fun c1210 => absurd (by decide) c1210)
                      refine q_iconst rfl rfl ?_
                      refine q_iret rfl rfl rfl ?_
                      refine ⟨_, rfl, ?_⟩
                      refine q_ifne rfl rfl (fun c1211 => ?_) (fun c1211 => absurd (by decide) c1211)
                      refine q_iload rfl rfl rfl ?_
                      refine q_iload rfl rfl rfl ?_
                      refine q_icge rfl rfl (fun c1212 => ?_) (fun c1212 => absurd (by decide) c1212)
                      refine q_icc5 (z := 34) rfl rfl rfl rfl rfl ?_
                      refine q_goto rfl ?_
                      refine q_iload rfl rfl rfl ?_
                      refine q_bipush rfl rfl ?_
                      refine q_icge rfl rfl (fun c1213 => absurd c1213 (by decide)) (fun c1213 => ?_)
                      refine q_aload_n rfl rfl rfl ?_
                      refine q_iload_n rfl rfl rfl ?_
                      refine q_iload rfl rfl rfl ?_
                      refine q_nS3 rfl rfl (Or.inl rfl) rfl rfl ⟨rfl, rfl⟩ rfl ?_
                      change PQ _ _ _ mm_X3_greaterPart 0 [.ref 45, .int 31, .int 34, pm_un, pm_un] [] _ _ 0 0 _
                      refine q_iconst rfl rfl ?_
                      refine q_ist3n rfl rfl rfl rfl ?_
                      refine q_iconst rfl rfl ?_
                      refine q_ist4 rfl rfl rfl rfl ?_
                      refine q_iload rfl rfl rfl ?_
                      refine q_aload_n rfl rfl rfl ?_
                      refine q_alen rfl rfl (by decide) rfl rfl (q_tn (z := 5) rfl ?_)
                      refine q_icge rfl rfl (fun c1214 => absurd c1214 (by decide)) (fun c1214 => ?_)
                      refine q_iload_n rfl rfl rfl ?_
                      refine q_iload rfl rfl rfl ?_
                      refine q_iushr rfl rfl (q_tn (z := 31) rfl ?_)
                      refine q_iconst rfl rfl ?_
                      refine q_iand rfl rfl (q_tn (z := 1) rfl ?_)
                      refine q_ifeq rfl rfl (fun c1215 => absurd c1215 (by decide)) (fun c1215 => ?_)
                      refine q_aload_n rfl rfl rfl ?_
                      refine q_iload rfl rfl rfl ?_
                      refine q_lald rfl rfl (by decide) rfl (by decide) (q_tnl (z := 1074791425) rfl ?_)
                      refine q_iload_n rfl rfl rfl ?_
                      refine q_nS2 rfl rfl (Or.inr rfl) rfl rfl ⟨rfl, rfl⟩ rfl ?_
                      change PQ _ _ _ mm_X11_says 0 [.long 1074791425, pm_un, .int 34] [] _ _ 0 0 _
                      refine q_lload_n rfl rfl rfl ?_
                      refine q_iload_n rfl rfl rfl ?_
                      refine q_lushr rfl rfl (q_tnl (z := 0) rfl ?_)
                      refine q_lconst rfl rfl ?_
                      refine q_land rfl rfl (q_tnl (z := 0) rfl ?_)
                      refine q_lconst rfl rfl ?_
                      refine q_lcmp rfl rfl (q_tn (z := 0) rfl ?_)
                      refine q_ifeq rfl rfl (fun c1216 => ?_) (fun c1216 => absurd (by decide) c1216)
                      refine q_iconst rfl rfl ?_
                      refine q_iret rfl rfl rfl ?_
                      refine ⟨_, rfl, ?_⟩
                      refine q_ifeq rfl rfl (fun c1217 => ?_) (fun c1217 => absurd (by decide) c1217)
                      refine q_icc4 (z := 1) rfl rfl rfl rfl rfl ?_
                      refine q_goto rfl ?_
                      refine q_iload rfl rfl rfl ?_
                      refine q_aload_n rfl rfl rfl ?_
                      refine q_alen rfl rfl (by decide) rfl rfl (q_tn (z := 5) rfl ?_)
                      refine q_icge rfl rfl (fun c1218 => absurd c1218 (by decide)) (fun c1218 => ?_)
                      refine q_iload_n rfl rfl rfl ?_
                      refine q_iload rfl rfl rfl ?_
                      refine q_iushr rfl rfl (q_tn (z := 15) rfl ?_)
                      refine q_iconst rfl rfl ?_
                      as_aux_lemma =>
                        refine q_iand rfl rfl (q_tn (z := 1) rfl ?_)
                        refine q_ifeq rfl rfl (fun c1219 => absurd c1219 (by decide)) (fun c1219 => ?_)
                        refine q_aload_n rfl rfl rfl ?_
                        refine q_iload rfl rfl rfl ?_
                        refine q_lald rfl rfl (by decide) rfl (by decide) (q_tnl (z := 1074791425) rfl ?_)
                        refine q_iload_n rfl rfl rfl ?_
                        refine q_nS2 rfl rfl (Or.inr rfl) rfl rfl ⟨rfl, rfl⟩ rfl ?_
                        change PQ _ _ _ mm_X11_says 0 [.long 1074791425, pm_un, .int 34] [] _ _ 0 0 _
                        refine q_lload_n rfl rfl rfl ?_
                        refine q_iload_n rfl rfl rfl ?_
                        refine q_lushr rfl rfl (q_tnl (z := 0) rfl ?_)
                        refine q_lconst rfl rfl ?_
                        refine q_land rfl rfl (q_tnl (z := 0) rfl ?_)
                        refine q_lconst rfl rfl ?_
                        refine q_lcmp rfl rfl (q_tn (z := 0) rfl ?_)
                        refine q_ifeq rfl rfl (fun c1220 => ?_) (fun c1220 => absurd (by decide) c1220)
                        refine q_iconst rfl rfl ?_
                        refine q_iret rfl rfl rfl ?_
                        refine ⟨_, rfl, ?_⟩
                        refine q_ifeq rfl rfl (fun c1221 => ?_) (fun c1221 => absurd (by decide) c1221)
                        refine q_icc4 (z := 2) rfl rfl rfl rfl rfl ?_
                        refine q_goto rfl ?_
                        refine q_iload rfl rfl rfl ?_
                        refine q_aload_n rfl rfl rfl ?_
                        refine q_alen rfl rfl (by decide) rfl rfl (q_tn (z := 5) rfl ?_)
                        refine q_icge rfl rfl (fun c1222 => absurd c1222 (by decide)) (fun c1222 => ?_)
                        refine q_iload_n rfl rfl rfl ?_
                        refine q_iload rfl rfl rfl ?_
                        refine q_iushr rfl rfl (q_tn (z := 7) rfl ?_)
                        refine q_iconst rfl rfl ?_
                        refine q_iand rfl rfl (q_tn (z := 1) rfl ?_)
                        refine q_ifeq rfl rfl (fun c1223 => absurd c1223 (by decide)) (fun c1223 => ?_)
                        refine q_aload_n rfl rfl rfl ?_
                        refine q_iload rfl rfl rfl ?_
                        refine q_lald rfl rfl (by decide) rfl (by decide) (q_tnl (z := 1074791425) rfl ?_)
                        refine q_iload_n rfl rfl rfl ?_
                        refine q_nS2 rfl rfl (Or.inr rfl) rfl rfl ⟨rfl, rfl⟩ rfl ?_
                        change PQ _ _ _ mm_X11_says 0 [.long 1074791425, pm_un, .int 34] [] _ _ 0 0 _
                        refine q_lload_n rfl rfl rfl ?_
                        refine q_iload_n rfl rfl rfl ?_
                        refine q_lushr rfl rfl (q_tnl (z := 0) rfl ?_)
                        refine q_lconst rfl rfl ?_
                        refine q_land rfl rfl (q_tnl (z := 0) rfl ?_)
                        refine q_lconst rfl rfl ?_
                        refine q_lcmp rfl rfl (q_tn (z := 0) rfl ?_)
                        refine q_ifeq rfl rfl (fun c1224 => ?_) (fun c1224 => absurd (by decide) c1224)
                        refine q_iconst rfl rfl ?_
                        refine q_iret rfl rfl rfl ?_
                        refine ⟨_, rfl, ?_⟩
                        refine q_ifeq rfl rfl (fun c1225 => ?_) (fun c1225 => absurd (by decide) c1225)
                        refine q_icc4 (z := 3) rfl rfl rfl rfl rfl ?_
                        refine q_goto rfl ?_
                        refine q_iload rfl rfl rfl ?_
                        refine q_aload_n rfl rfl rfl ?_
                        refine q_alen rfl rfl (by decide) rfl rfl (q_tn (z := 5) rfl ?_)
                        refine q_icge rfl rfl (fun c1226 => absurd c1226 (by decide)) (fun c1226 => ?_)
                        refine q_iload_n rfl rfl rfl ?_
                        refine q_iload rfl rfl rfl ?_
                        refine q_iushr rfl rfl (q_tn (z := 3) rfl ?_)
                        refine q_iconst rfl rfl ?_
                        refine q_iand rfl rfl (q_tn (z := 1) rfl ?_)
                        refine q_ifeq rfl rfl (fun c1227 => absurd c1227 (by decide)) (fun c1227 => ?_)
                        refine q_aload_n rfl rfl rfl ?_
                        refine q_iload rfl rfl rfl ?_
                        refine q_lald rfl rfl (by decide) rfl (by decide) (q_tnl (z := 1074791425) rfl ?_)
                        refine q_iload_n rfl rfl rfl ?_
                        refine q_nS2 rfl rfl (Or.inr rfl) rfl rfl ⟨rfl, rfl⟩ rfl ?_
                        change PQ _ _ _ mm_X11_says 0 [.long 1074791425, pm_un, .int 34] [] _ _ 0 0 _
                        refine q_lload_n rfl rfl rfl ?_
                        refine q_iload_n rfl rfl rfl ?_
                        refine q_lushr rfl rfl (q_tnl (z := 0) rfl ?_)
                        refine q_lconst rfl rfl ?_
                        refine q_land rfl rfl (q_tnl (z := 0) rfl ?_)
                        refine q_lconst rfl rfl ?_
                        refine q_lcmp rfl rfl (q_tn (z := 0) rfl ?_)
                        refine q_ifeq rfl rfl (fun c1228 => ?_) (fun c1228 => absurd (by decide) c1228)
                        refine q_iconst rfl rfl ?_
                        refine q_iret rfl rfl rfl ?_
                        refine ⟨_, rfl, ?_⟩
                        refine q_ifeq rfl rfl (fun c1229 => ?_) (fun c1229 => absurd (by decide) c1229)
                        refine q_icc4 (z := 4) rfl rfl rfl rfl rfl ?_
                        refine q_goto rfl ?_
                        refine q_iload rfl rfl rfl ?_
                        refine q_aload_n rfl rfl rfl ?_
                        refine q_alen rfl rfl (by decide) rfl rfl (q_tn (z := 5) rfl ?_)
                        refine q_icge rfl rfl (fun c1230 => absurd c1230 (by decide)) (fun c1230 => ?_)
                        refine q_iload_n rfl rfl rfl ?_
                        refine q_iload rfl rfl rfl ?_
                        refine q_iushr rfl rfl (q_tn (z := 1) rfl ?_)
                        refine q_iconst rfl rfl ?_
                        refine q_iand rfl rfl (q_tn (z := 1) rfl ?_)
                        refine q_ifeq rfl rfl (fun c1231 => absurd c1231 (by decide)) (fun c1231 => ?_)
                        refine q_aload_n rfl rfl rfl ?_
                        refine q_iload rfl rfl rfl ?_
                        refine q_lald rfl rfl (by decide) rfl (by decide) (q_tnl (z := 1074791425) rfl ?_)
                        refine q_iload_n rfl rfl rfl ?_
                        refine q_nS2 rfl rfl (Or.inr rfl) rfl rfl ⟨rfl, rfl⟩ rfl ?_
                        change PQ _ _ _ mm_X11_says 0 [.long 1074791425, pm_un, .int 34] [] _ _ 0 0 _
                        refine q_lload_n rfl rfl rfl ?_
                        refine q_iload_n rfl rfl rfl ?_
                        refine q_lushr rfl rfl (q_tnl (z := 0) rfl ?_)
                        refine q_lconst rfl rfl ?_
                        refine q_land rfl rfl (q_tnl (z := 0) rfl ?_)
                        refine q_lconst rfl rfl ?_
                        refine q_lcmp rfl rfl (q_tn (z := 0) rfl ?_)
                        refine q_ifeq rfl rfl (fun c1232 => ?_) (fun c1232 => absurd (by decide) c1232)
                        refine q_iconst rfl rfl ?_
                        refine q_iret rfl rfl rfl ?_
                        refine ⟨_, rfl, ?_⟩
                        refine q_ifeq rfl rfl (fun c1233 => ?_) (fun c1233 => absurd (by decide) c1233)
                        refine q_icc4 (z := 5) rfl rfl rfl rfl rfl ?_
                        refine q_goto rfl ?_
                        refine q_iload rfl rfl rfl ?_
                        refine q_aload_n rfl rfl rfl ?_
                        refine q_alen rfl rfl (by decide) rfl rfl (q_tn (z := 5) rfl ?_)
                        refine q_icge rfl rfl (fun c1234 => ?_) (fun c1234 => absurd (by decide) c1234)
                        refine q_iload_n rfl rfl rfl ?_
                        refine q_iload_n rfl rfl rfl ?_
                        refine q_nS1 rfl rfl (Or.inl rfl) rfl rfl ⟨rfl, rfl⟩ rfl ?_
                        change PQ _ _ _ mm_J6_bitCount_0f7a4 0 [.int 31] [] _ _ 0 0 _
                        refine q_iload_n rfl rfl rfl ?_
                        refine q_iload_n rfl rfl rfl ?_
                        refine q_iconst rfl rfl ?_
                        refine q_iushr rfl rfl (q_tn (z := 15) rfl ?_)
                        refine q_ldcw rfl rfl ?_
                        refine q_iand rfl rfl (q_tn (z := 5) rfl ?_)
                        refine q_isub rfl rfl (q_tn (z := 26) rfl ?_)
                        refine q_ist0n rfl rfl rfl ?_
                        refine q_iload_n rfl rfl rfl ?_
                        refine q_ldcw rfl rfl ?_
                        refine q_iand rfl rfl (q_tn (z := 18) rfl ?_)
                        refine q_iload_n rfl rfl rfl ?_
                        refine q_iconst rfl rfl ?_
                        refine q_iushr rfl rfl (q_tn (z := 6) rfl ?_)
                        refine q_ldcw rfl rfl ?_
                        refine q_iand rfl rfl (q_tn (z := 2) rfl ?_)
                        refine q_iadd rfl rfl (q_tn (z := 20) rfl ?_)
                        refine q_ist0n rfl rfl rfl ?_
                        refine q_iload_n rfl rfl rfl ?_
                        refine q_iload_n rfl rfl rfl ?_
                        refine q_iconst rfl rfl ?_
                        refine q_iushr rfl rfl (q_tn (z := 1) rfl ?_)
                        refine q_iadd rfl rfl (q_tn (z := 21) rfl ?_)
                        refine q_ldcw rfl rfl ?_
                        refine q_iand rfl rfl (q_tn (z := 5) rfl ?_)
                        refine q_ist0n rfl rfl rfl ?_
                        refine q_iload_n rfl rfl rfl ?_
                        refine q_iload_n rfl rfl rfl ?_
                        refine q_bipush rfl rfl ?_
                        refine q_iushr rfl rfl (q_tn (z := 0) rfl ?_)
                        refine q_iadd rfl rfl (q_tn (z := 5) rfl ?_)
                        refine q_ist0n rfl rfl rfl ?_
                        refine q_iload_n rfl rfl rfl ?_
                        refine q_iload_n rfl rfl rfl ?_
                        refine q_bipush rfl rfl ?_
                        refine q_iushr rfl rfl (q_tn (z := 0) rfl ?_)
                        refine q_iadd rfl rfl (q_tn (z := 5) rfl ?_)
                        refine q_ist0n rfl rfl rfl ?_
                        refine q_iload_n rfl rfl rfl ?_
                        refine q_bipush rfl rfl ?_
                        refine q_iand rfl rfl (q_tn (z := 5) rfl ?_)
                        refine q_iret rfl rfl trivial ?_
                        refine ⟨_, rfl, ?_⟩
                        refine q_iload_n rfl rfl rfl ?_
                        refine q_isub rfl rfl (q_tn (z := 5) rfl ?_)
                        refine q_mmax (z := 5) rfl om_gp rfl rfl rfl ?_
                        refine q_iret rfl rfl trivial ?_
                        refine ⟨_, rfl, ?_⟩
                        refine q_ist6 rfl rfl rfl rfl ?_
                        refine q_aload_n rfl rfl rfl ?_
                        refine q_getf rfl rfl (by decide) (FW_42 S hW) rfl ?_
                        refine q_iload rfl rfl rfl ?_
                        refine q_nS2 rfl rfl (Or.inr rfl) rfl rfl ⟨rfl, rfl⟩ rfl ?_
                        change PQ _ _ _ mm_X11_says 0 [.long 0, pm_un, .int 34] [] _ _ 0 0 _
                        refine q_lload_n rfl rfl rfl ?_
                        refine q_iload_n rfl rfl rfl ?_
                        refine q_lushr rfl rfl (q_tnl (z := 0) rfl ?_)
                        refine q_lconst rfl rfl ?_
                        refine q_land rfl rfl (q_tnl (z := 0) rfl ?_)
                        refine q_lconst rfl rfl ?_
                        refine q_lcmp rfl rfl (q_tn (z := 0) rfl ?_)
                        refine q_ifeq rfl rfl (fun c1235 => ?_) (fun c1235 => absurd (by decide) c1235)
                        refine q_iconst rfl rfl ?_
                        refine q_iret rfl rfl rfl ?_
                        refine ⟨_, rfl, ?_⟩
                        refine q_ifne rfl rfl (fun c1236 => ?_) (fun c1236 => absurd (by decide) c1236)
                        refine q_iload rfl rfl rfl ?_
                        refine q_iload rfl rfl rfl ?_
                        refine q_icge rfl rfl (fun c1237 => ?_) (fun c1237 => absurd (by decide) c1237)
                        refine q_icc5 (z := 35) rfl rfl rfl rfl rfl ?_
                        refine q_goto rfl ?_
                        refine q_iload rfl rfl rfl ?_
                        refine q_bipush rfl rfl ?_
                        refine q_icge rfl rfl (fun c1238 => absurd c1238 (by decide)) (fun c1238 => ?_)
                        refine q_aload_n rfl rfl rfl ?_
                        refine q_iload_n rfl rfl rfl ?_
                        refine q_iload rfl rfl rfl ?_
                        refine q_nS3 rfl rfl (Or.inl rfl) rfl rfl ⟨rfl, rfl⟩ rfl ?_
                        change PQ _ _ _ mm_X3_greaterPart 0 [.ref 45, .int 31, .int 35, pm_un, pm_un] [] _ _ 0 0 _
                        refine q_iconst rfl rfl ?_
                        refine q_ist3n rfl rfl rfl rfl ?_
                        refine q_iconst rfl rfl ?_
                        refine q_ist4 rfl rfl rfl rfl ?_
                        refine q_iload rfl rfl rfl ?_
                        refine q_aload_n rfl rfl rfl ?_
                        refine q_alen rfl rfl (by decide) rfl rfl (q_tn (z := 5) rfl ?_)
                        refine q_icge rfl rfl (fun c1239 => absurd c1239 (by decide)) (fun c1239 => ?_)
                        refine q_iload_n rfl rfl rfl ?_
                        refine q_iload rfl rfl rfl ?_
                        refine q_iushr rfl rfl (q_tn (z := 31) rfl ?_)
                        refine q_iconst rfl rfl ?_
                        refine q_iand rfl rfl (q_tn (z := 1) rfl ?_)
                        refine q_ifeq rfl rfl (fun c1240 => absurd c1240 (by decide)) (fun c1240 => ?_)
                        refine q_aload_n rfl rfl rfl ?_
                        refine q_iload rfl rfl rfl ?_
                        refine q_lald rfl rfl (by decide) rfl (by decide) (q_tnl (z := 1074791425) rfl ?_)
                        refine q_iload_n rfl rfl rfl ?_
                        refine q_nS2 rfl rfl (Or.inr rfl) rfl rfl ⟨rfl, rfl⟩ rfl ?_
                        change PQ _ _ _ mm_X11_says 0 [.long 1074791425, pm_un, .int 35] [] _ _ 0 0 _
                        refine q_lload_n rfl rfl rfl ?_
                        refine q_iload_n rfl rfl rfl ?_
                        refine q_lushr rfl rfl (q_tnl (z := 0) rfl ?_)
                        refine q_lconst rfl rfl ?_
                        refine q_land rfl rfl (q_tnl (z := 0) rfl ?_)
                        refine q_lconst rfl rfl ?_
                        refine q_lcmp rfl rfl (q_tn (z := 0) rfl ?_)
                        refine q_ifeq rfl rfl (fun c1241 => ?_) (fun c1241 => absurd (by decide) c1241)
                        refine q_iconst rfl rfl ?_
                        refine q_iret rfl rfl rfl ?_
                        refine ⟨_, rfl, ?_⟩
                        refine q_ifeq rfl rfl (fun c1242 => ?_) (fun c1242 => absurd (by decide) c1242)
                        refine q_icc4 (z := 1) rfl rfl rfl rfl rfl ?_
                        refine q_goto rfl ?_
                        refine q_iload rfl rfl rfl ?_
                        refine q_aload_n rfl rfl rfl ?_
                        refine q_alen rfl rfl (by decide) rfl rfl (q_tn (z := 5) rfl ?_)
                        refine q_icge rfl rfl (fun c1243 => absurd c1243 (by decide)) (fun c1243 => ?_)
                        refine q_iload_n rfl rfl rfl ?_
                        refine q_iload rfl rfl rfl ?_
                        refine q_iushr rfl rfl (q_tn (z := 15) rfl ?_)
                        refine q_iconst rfl rfl ?_
                        refine q_iand rfl rfl (q_tn (z := 1) rfl ?_)
                        refine q_ifeq rfl rfl (fun c1244 => absurd c1244 (by decide)) (fun c1244 => ?_)
                        refine q_aload_n rfl rfl rfl ?_
                        refine q_iload rfl rfl rfl ?_
                        refine q_lald rfl rfl (by decide) rfl (by decide) (q_tnl (z := 1074791425) rfl ?_)
                        refine q_iload_n rfl rfl rfl ?_
                        refine q_nS2 rfl rfl (Or.inr rfl) rfl rfl ⟨rfl, rfl⟩ rfl ?_
                        change PQ _ _ _ mm_X11_says 0 [.long 1074791425, pm_un, .int 35] [] _ _ 0 0 _
                        refine q_lload_n rfl rfl rfl ?_
                        refine q_iload_n rfl rfl rfl ?_
                        refine q_lushr rfl rfl (q_tnl (z := 0) rfl ?_)
                        refine q_lconst rfl rfl ?_
                        refine q_land rfl rfl (q_tnl (z := 0) rfl ?_)
                        refine q_lconst rfl rfl ?_
                        refine q_lcmp rfl rfl (q_tn (z := 0) rfl ?_)
                        refine q_ifeq rfl rfl (fun c1245 => ?_) (fun c1245 => absurd (by decide) c1245)
                        refine q_iconst rfl rfl ?_
                        refine q_iret rfl rfl rfl ?_
                        refine ⟨_, rfl, ?_⟩
                        refine q_ifeq rfl rfl (fun c1246 => ?_) (fun c1246 => absurd (by decide) c1246)
                        refine q_icc4 (z := 2) rfl rfl rfl rfl rfl ?_
                        refine q_goto rfl ?_
                        refine q_iload rfl rfl rfl ?_
                        refine q_aload_n rfl rfl rfl ?_
                        refine q_alen rfl rfl (by decide) rfl rfl (q_tn (z := 5) rfl ?_)
                        refine q_icge rfl rfl (fun c1247 => absurd c1247 (by decide)) (fun c1247 => ?_)
                        refine q_iload_n rfl rfl rfl ?_
                        refine q_iload rfl rfl rfl ?_
                        refine q_iushr rfl rfl (q_tn (z := 7) rfl ?_)
                        refine q_iconst rfl rfl ?_
                        refine q_iand rfl rfl (q_tn (z := 1) rfl ?_)
                        refine q_ifeq rfl rfl (fun c1248 => absurd c1248 (by decide)) (fun c1248 => ?_)
                        refine q_aload_n rfl rfl rfl ?_
                        refine q_iload rfl rfl rfl ?_
                        refine q_lald rfl rfl (by decide) rfl (by decide) (q_tnl (z := 1074791425) rfl ?_)
                        refine q_iload_n rfl rfl rfl ?_
                        refine q_nS2 rfl rfl (Or.inr rfl) rfl rfl ⟨rfl, rfl⟩ rfl ?_
                        change PQ _ _ _ mm_X11_says 0 [.long 1074791425, pm_un, .int 35] [] _ _ 0 0 _
                        refine q_lload_n rfl rfl rfl ?_
                        refine q_iload_n rfl rfl rfl ?_
                        refine q_lushr rfl rfl (q_tnl (z := 0) rfl ?_)
                        refine q_lconst rfl rfl ?_
                        refine q_land rfl rfl (q_tnl (z := 0) rfl ?_)
                        refine q_lconst rfl rfl ?_
                        refine q_lcmp rfl rfl (q_tn (z := 0) rfl ?_)
                        refine q_ifeq rfl rfl (fun c1249 => ?_) (fun c1249 => absurd (by decide) c1249)
                        refine q_iconst rfl rfl ?_
                        refine q_iret rfl rfl rfl ?_
                        refine ⟨_, rfl, ?_⟩
                        refine q_ifeq rfl rfl (fun c1250 => ?_) (fun c1250 => absurd (by decide) c1250)
                        refine q_icc4 (z := 3) rfl rfl rfl rfl rfl ?_
                        refine q_goto rfl ?_
                        refine q_iload rfl rfl rfl ?_
                        refine q_aload_n rfl rfl rfl ?_
                        refine q_alen rfl rfl (by decide) rfl rfl (q_tn (z := 5) rfl ?_)
                        refine q_icge rfl rfl (fun c1251 => absurd c1251 (by decide)) (fun c1251 => ?_)
                        refine q_iload_n rfl rfl rfl ?_
                        refine q_iload rfl rfl rfl ?_
                        refine q_iushr rfl rfl (q_tn (z := 3) rfl ?_)
                        refine q_iconst rfl rfl ?_
                        refine q_iand rfl rfl (q_tn (z := 1) rfl ?_)
                        refine q_ifeq rfl rfl (fun c1252 => absurd c1252 (by decide)) (fun c1252 => ?_)
                        refine q_aload_n rfl rfl rfl ?_
                        refine q_iload rfl rfl rfl ?_
                        refine q_lald rfl rfl (by decide) rfl (by decide) (q_tnl (z := 1074791425) rfl ?_)
                        refine q_iload_n rfl rfl rfl ?_
                        refine q_nS2 rfl rfl (Or.inr rfl) rfl rfl ⟨rfl, rfl⟩ rfl ?_
                        change PQ _ _ _ mm_X11_says 0 [.long 1074791425, pm_un, .int 35] [] _ _ 0 0 _
                        refine q_lload_n rfl rfl rfl ?_
                        refine q_iload_n rfl rfl rfl ?_
                        refine q_lushr rfl rfl (q_tnl (z := 0) rfl ?_)
                        refine q_lconst rfl rfl ?_
                        refine q_land rfl rfl (q_tnl (z := 0) rfl ?_)
                        refine q_lconst rfl rfl ?_
                        refine q_lcmp rfl rfl (q_tn (z := 0) rfl ?_)
                        refine q_ifeq rfl rfl (fun c1253 => ?_) (fun c1253 => absurd (by decide) c1253)
                        refine q_iconst rfl rfl ?_
                        refine q_iret rfl rfl rfl ?_
                        refine ⟨_, rfl, ?_⟩
                        refine q_ifeq rfl rfl (fun c1254 => ?_) (fun c1254 => absurd (by decide) c1254)
                        refine q_icc4 (z := 4) rfl rfl rfl rfl rfl ?_
                        refine q_goto rfl ?_
                        refine q_iload rfl rfl rfl ?_
                        refine q_aload_n rfl rfl rfl ?_
                        refine q_alen rfl rfl (by decide) rfl rfl (q_tn (z := 5) rfl ?_)
                        refine q_icge rfl rfl (fun c1255 => absurd c1255 (by decide)) (fun c1255 => ?_)
                        refine q_iload_n rfl rfl rfl ?_
                        refine q_iload rfl rfl rfl ?_
                        refine q_iushr rfl rfl (q_tn (z := 1) rfl ?_)
                        refine q_iconst rfl rfl ?_
                        refine q_iand rfl rfl (q_tn (z := 1) rfl ?_)
                        refine q_ifeq rfl rfl (fun c1256 => absurd c1256 (by decide)) (fun c1256 => ?_)
                        refine q_aload_n rfl rfl rfl ?_
                        refine q_iload rfl rfl rfl ?_
                        refine q_lald rfl rfl (by decide) rfl (by decide) (q_tnl (z := 1074791425) rfl ?_)
                        refine q_iload_n rfl rfl rfl ?_
                        refine q_nS2 rfl rfl (Or.inr rfl) rfl rfl ⟨rfl, rfl⟩ rfl ?_
                        change PQ _ _ _ mm_X11_says 0 [.long 1074791425, pm_un, .int 35] [] _ _ 0 0 _
                        refine q_lload_n rfl rfl rfl ?_
                        refine q_iload_n rfl rfl rfl ?_
                        refine q_lushr rfl rfl (q_tnl (z := 0) rfl ?_)
                        refine q_lconst rfl rfl ?_
                        refine q_land rfl rfl (q_tnl (z := 0) rfl ?_)
                        refine q_lconst rfl rfl ?_
                        refine q_lcmp rfl rfl (q_tn (z := 0) rfl ?_)
                        refine q_ifeq rfl rfl (fun c1257 => ?_) (fun c1257 => absurd (by decide) c1257)
                        refine q_iconst rfl rfl ?_
                        refine q_iret rfl rfl rfl ?_
                        refine ⟨_, rfl, ?_⟩
                        refine q_ifeq rfl rfl (fun c1258 => ?_) (fun c1258 => absurd (by decide) c1258)
                        refine q_icc4 (z := 5) rfl rfl rfl rfl rfl ?_
                        refine q_goto rfl ?_
                        refine q_iload rfl rfl rfl ?_
                        refine q_aload_n rfl rfl rfl ?_
                        refine q_alen rfl rfl (by decide) rfl rfl (q_tn (z := 5) rfl ?_)
                        refine q_icge rfl rfl (fun c1259 => ?_) (fun c1259 => absurd (by decide) c1259)
                        refine q_iload_n rfl rfl rfl ?_
                        refine q_iload_n rfl rfl rfl ?_
                        refine q_nS1 rfl rfl (Or.inl rfl) rfl rfl ⟨rfl, rfl⟩ rfl ?_
                        change PQ _ _ _ mm_J6_bitCount_0f7a4 0 [.int 31] [] _ _ 0 0 _
                        refine q_iload_n rfl rfl rfl ?_
                        refine q_iload_n rfl rfl rfl ?_
                        refine q_iconst rfl rfl ?_
                        refine q_iushr rfl rfl (q_tn (z := 15) rfl ?_)
                        refine q_ldcw rfl rfl ?_
                        refine q_iand rfl rfl (q_tn (z := 5) rfl ?_)
                        refine q_isub rfl rfl (q_tn (z := 26) rfl ?_)
                        refine q_ist0n rfl rfl rfl ?_
                        refine q_iload_n rfl rfl rfl ?_
                        refine q_ldcw rfl rfl ?_
                        refine q_iand rfl rfl (q_tn (z := 18) rfl ?_)
                        refine q_iload_n rfl rfl rfl ?_
                        refine q_iconst rfl rfl ?_
                        refine q_iushr rfl rfl (q_tn (z := 6) rfl ?_)
                        refine q_ldcw rfl rfl ?_
                        refine q_iand rfl rfl (q_tn (z := 2) rfl ?_)
                        refine q_iadd rfl rfl (q_tn (z := 20) rfl ?_)
                        refine q_ist0n rfl rfl rfl ?_
                        refine q_iload_n rfl rfl rfl ?_
                        refine q_iload_n rfl rfl rfl ?_
                        refine q_iconst rfl rfl ?_
                        refine q_iushr rfl rfl (q_tn (z := 1) rfl ?_)
                        refine q_iadd rfl rfl (q_tn (z := 21) rfl ?_)
                        refine q_ldcw rfl rfl ?_
                        refine q_iand rfl rfl (q_tn (z := 5) rfl ?_)
                        refine q_ist0n rfl rfl rfl ?_
                        refine q_iload_n rfl rfl rfl ?_
                        refine q_iload_n rfl rfl rfl ?_
                        refine q_bipush rfl rfl ?_
                        refine q_iushr rfl rfl (q_tn (z := 0) rfl ?_)
                        refine q_iadd rfl rfl (q_tn (z := 5) rfl ?_)
                        refine q_ist0n rfl rfl rfl ?_
                        refine q_iload_n rfl rfl rfl ?_
                        refine q_iload_n rfl rfl rfl ?_
                        refine q_bipush rfl rfl ?_
                        refine q_iushr rfl rfl (q_tn (z := 0) rfl ?_)
                        refine q_iadd rfl rfl (q_tn (z := 5) rfl ?_)
                        refine q_ist0n rfl rfl rfl ?_
                        refine q_iload_n rfl rfl rfl ?_
                        refine q_bipush rfl rfl ?_
                        refine q_iand rfl rfl (q_tn (z := 5) rfl ?_)
                        refine q_iret rfl rfl trivial ?_
                        refine ⟨_, rfl, ?_⟩
                        refine q_iload_n rfl rfl rfl ?_
                        refine q_isub rfl rfl (q_tn (z := 5) rfl ?_)
                        refine q_mmax (z := 5) rfl om_gp rfl rfl rfl ?_
                        refine q_iret rfl rfl trivial ?_
                        refine ⟨_, rfl, ?_⟩
                        refine q_ist6 rfl rfl rfl rfl ?_
                        refine q_aload_n rfl rfl rfl ?_
                        refine q_getf rfl rfl (by decide) (FW_42 S hW) rfl ?_
                        refine q_iload rfl rfl rfl ?_
                        refine q_nS2 rfl rfl (Or.inr rfl) rfl rfl ⟨rfl, rfl⟩ rfl ?_
                        change PQ _ _ _ mm_X11_says 0 [.long 0, pm_un, .int 35] [] _ _ 0 0 _
                        refine q_lload_n rfl rfl rfl ?_
                        refine q_iload_n rfl rfl rfl ?_
                        refine q_lushr rfl rfl (q_tnl (z := 0) rfl ?_)
                        refine q_lconst rfl rfl ?_
                        refine q_land rfl rfl (q_tnl (z := 0) rfl ?_)
                        refine q_lconst rfl rfl ?_
                        refine q_lcmp rfl rfl (q_tn (z := 0) rfl ?_)
                        refine q_ifeq rfl rfl (fun c1260 => ?_) (fun c1260 => absurd (by decide) c1260)
                        refine q_iconst rfl rfl ?_
                        refine q_iret rfl rfl rfl ?_
                        refine ⟨_, rfl, ?_⟩
                        refine q_ifne rfl rfl (fun c1261 => ?_) (fun c1261 => absurd (by decide) c1261)
                        refine q_iload rfl rfl rfl ?_
                        refine q_iload rfl rfl rfl ?_
                        refine q_icge rfl rfl (fun c1262 => ?_) (fun c1262 => absurd (by decide) c1262)
                        refine q_icc5 (z := 36) rfl rfl rfl rfl rfl ?_
                        refine q_goto rfl ?_
                        refine q_iload rfl rfl rfl ?_
                        refine q_bipush rfl rfl ?_
                        refine q_icge rfl rfl (fun c1263 => absurd c1263 (by decide)) (fun c1263 => ?_)
                        refine q_aload_n rfl rfl rfl ?_
                        refine q_iload_n rfl rfl rfl ?_
                        refine q_iload rfl rfl rfl ?_
                        refine q_nS3 rfl rfl (Or.inl rfl) rfl rfl ⟨rfl, rfl⟩ rfl ?_
                        change PQ _ _ _ mm_X3_greaterPart 0 [.ref 45, .int 31, .int 36, pm_un, pm_un] [] _ _ 0 0 _
                        refine q_iconst rfl rfl ?_
                        refine q_ist3n rfl rfl rfl rfl ?_
                        refine q_iconst rfl rfl ?_
                        refine q_ist4 rfl rfl rfl rfl ?_
                        refine q_iload rfl rfl rfl ?_
                        refine q_aload_n rfl rfl rfl ?_
                        refine q_alen rfl rfl (by decide) rfl rfl (q_tn (z := 5) rfl ?_)
                        refine q_icge rfl rfl (fun c1264 => absurd c1264 (by decide)) (fun c1264 => ?_)
                        refine q_iload_n rfl rfl rfl ?_
                        refine q_iload rfl rfl rfl ?_
                        refine q_iushr rfl rfl (q_tn (z := 31) rfl ?_)
                        refine q_iconst rfl rfl ?_
                        refine q_iand rfl rfl (q_tn (z := 1) rfl ?_)
                        refine q_ifeq rfl rfl (fun c1265 => absurd c1265 (by decide)) (fun c1265 => ?_)
                        refine q_aload_n rfl rfl rfl ?_
                        refine q_iload rfl rfl rfl ?_
                        refine q_lald rfl rfl (by decide) rfl (by decide) (q_tnl (z := 1074791425) rfl ?_)
                        refine q_iload_n rfl rfl rfl ?_
                        refine q_nS2 rfl rfl (Or.inr rfl) rfl rfl ⟨rfl, rfl⟩ rfl ?_
                        change PQ _ _ _ mm_X11_says 0 [.long 1074791425, pm_un, .int 36] [] _ _ 0 0 _
                        refine q_lload_n rfl rfl rfl ?_
                        refine q_iload_n rfl rfl rfl ?_
                        refine q_lushr rfl rfl (q_tnl (z := 0) rfl ?_)
                        refine q_lconst rfl rfl ?_
                        refine q_land rfl rfl (q_tnl (z := 0) rfl ?_)
                        refine q_lconst rfl rfl ?_
                        refine q_lcmp rfl rfl (q_tn (z := 0) rfl ?_)
                        refine q_ifeq rfl rfl (fun c1266 => ?_) (fun c1266 => absurd (by decide) c1266)
                        refine q_iconst rfl rfl ?_
                        refine q_iret rfl rfl rfl ?_
                        refine ⟨_, rfl, ?_⟩
                        refine q_ifeq rfl rfl (fun c1267 => ?_) (fun c1267 => absurd (by decide) c1267)
                        refine q_icc4 (z := 1) rfl rfl rfl rfl rfl ?_
                        refine q_goto rfl ?_
                        refine q_iload rfl rfl rfl ?_
                        refine q_aload_n rfl rfl rfl ?_
                        refine q_alen rfl rfl (by decide) rfl rfl (q_tn (z := 5) rfl ?_)
                        refine q_icge rfl rfl (fun c1268 => absurd c1268 (by decide)) (fun c1268 => ?_)
                        refine q_iload_n rfl rfl rfl ?_
                        refine q_iload rfl rfl rfl ?_
                        refine q_iushr rfl rfl (q_tn (z := 15) rfl ?_)
                        refine q_iconst rfl rfl ?_
                        refine q_iand rfl rfl (q_tn (z := 1) rfl ?_)
                        refine q_ifeq rfl rfl (fun c1269 => absurd c1269 (by decide)) (fun c1269 => ?_)
                        refine q_aload_n rfl rfl rfl ?_
                        refine q_iload rfl rfl rfl ?_
                        refine q_lald rfl rfl (by decide) rfl (by decide) (q_tnl (z := 1074791425) rfl ?_)
                        refine q_iload_n rfl rfl rfl ?_
                        refine q_nS2 rfl rfl (Or.inr rfl) rfl rfl ⟨rfl, rfl⟩ rfl ?_
                        change PQ _ _ _ mm_X11_says 0 [.long 1074791425, pm_un, .int 36] [] _ _ 0 0 _
                        refine q_lload_n rfl rfl rfl ?_
                        refine q_iload_n rfl rfl rfl ?_
                        refine q_lushr rfl rfl (q_tnl (z := 0) rfl ?_)
                        refine q_lconst rfl rfl ?_
                        refine q_land rfl rfl (q_tnl (z := 0) rfl ?_)
                        refine q_lconst rfl rfl ?_
                        refine q_lcmp rfl rfl (q_tn (z := 0) rfl ?_)
                        refine q_ifeq rfl rfl (fun c1270 => ?_) (fun c1270 => absurd (by decide) c1270)
                        refine q_iconst rfl rfl ?_
                        refine q_iret rfl rfl rfl ?_
                        refine ⟨_, rfl, ?_⟩
                        refine q_ifeq rfl rfl (fun c1271 => ?_) (fun c1271 => absurd (by decide) c1271)
                        refine q_icc4 (z := 2) rfl rfl rfl rfl rfl ?_
                        refine q_goto rfl ?_
                        refine q_iload rfl rfl rfl ?_
                        refine q_aload_n rfl rfl rfl ?_
                        refine q_alen rfl rfl (by decide) rfl rfl (q_tn (z := 5) rfl ?_)
                        refine q_icge rfl rfl (fun c1272 => absurd c1272 (by decide)) (fun c1272 => ?_)
                        refine q_iload_n rfl rfl rfl ?_
                        refine q_iload rfl rfl rfl ?_
                        refine q_iushr rfl rfl (q_tn (z := 7) rfl ?_)
                        refine q_iconst rfl rfl ?_
                        refine q_iand rfl rfl (q_tn (z := 1) rfl ?_)
                        refine q_ifeq rfl rfl (fun c1273 => absurd c1273 (by decide)) (fun c1273 => ?_)
                        refine q_aload_n rfl rfl rfl ?_
                        refine q_iload rfl rfl rfl ?_
                        refine q_lald rfl rfl (by decide) rfl (by decide) (q_tnl (z := 1074791425) rfl ?_)
                        refine q_iload_n rfl rfl rfl ?_
                        refine q_nS2 rfl rfl (Or.inr rfl) rfl rfl ⟨rfl, rfl⟩ rfl ?_
                        change PQ _ _ _ mm_X11_says 0 [.long 1074791425, pm_un, .int 36] [] _ _ 0 0 _
                        refine q_lload_n rfl rfl rfl ?_
                        refine q_iload_n rfl rfl rfl ?_
                        refine q_lushr rfl rfl (q_tnl (z := 0) rfl ?_)
                        refine q_lconst rfl rfl ?_
                        refine q_land rfl rfl (q_tnl (z := 0) rfl ?_)
                        refine q_lconst rfl rfl ?_
                        refine q_lcmp rfl rfl (q_tn (z := 0) rfl ?_)
                        refine q_ifeq rfl rfl (fun c1274 => ?_) (fun c1274 => absurd (by decide) c1274)
                        refine q_iconst rfl rfl ?_
                        refine q_iret rfl rfl rfl ?_
                        refine ⟨_, rfl, ?_⟩
                        refine q_ifeq rfl rfl (fun c1275 => ?_) (fun c1275 => absurd (by decide) c1275)
                        refine q_icc4 (z := 3) rfl rfl rfl rfl rfl ?_
                        refine q_goto rfl ?_
                        refine q_iload rfl rfl rfl ?_
                        refine q_aload_n rfl rfl rfl ?_
                        refine q_alen rfl rfl (by decide) rfl rfl (q_tn (z := 5) rfl ?_)
                        refine q_icge rfl rfl (fun c1276 => absurd c1276 (by decide)) (fun c1276 => ?_)
                        refine q_iload_n rfl rfl rfl ?_
                        refine q_iload rfl rfl rfl ?_
                        refine q_iushr rfl rfl (q_tn (z := 3) rfl ?_)
                        refine q_iconst rfl rfl ?_
                        refine q_iand rfl rfl (q_tn (z := 1) rfl ?_)
                        refine q_ifeq rfl rfl (fun c1277 => absurd c1277 (by decide)) (fun c1277 => ?_)
                        refine q_aload_n rfl rfl rfl ?_
                        refine q_iload rfl rfl rfl ?_
                        refine q_lald rfl rfl (by decide) rfl (by decide) (q_tnl (z := 1074791425) rfl ?_)
                        refine q_iload_n rfl rfl rfl ?_
                        refine q_nS2 rfl rfl (Or.inr rfl) rfl rfl ⟨rfl, rfl⟩ rfl ?_
                        change PQ _ _ _ mm_X11_says 0 [.long 1074791425, pm_un, .int 36] [] _ _ 0 0 _
                        refine q_lload_n rfl rfl rfl ?_
                        refine q_iload_n rfl rfl rfl ?_
                        refine q_lushr rfl rfl (q_tnl (z := 0) rfl ?_)
                        refine q_lconst rfl rfl ?_
                        refine q_land rfl rfl (q_tnl (z := 0) rfl ?_)
                        refine q_lconst rfl rfl ?_
                        refine q_lcmp rfl rfl (q_tn (z := 0) rfl ?_)
                        refine q_ifeq rfl rfl (fun c1278 => ?_) (fun c1278 => absurd (by decide) c1278)
                        refine q_iconst rfl rfl ?_
                        refine q_iret rfl rfl rfl ?_
                        refine ⟨_, rfl, ?_⟩
                        refine q_ifeq rfl rfl (fun c1279 => ?_) (fun c1279 => absurd (by decide) c1279)
                        refine q_icc4 (z := 4) rfl rfl rfl rfl rfl ?_
                        refine q_goto rfl ?_
                        refine q_iload rfl rfl rfl ?_
                        refine q_aload_n rfl rfl rfl ?_
                        refine q_alen rfl rfl (by decide) rfl rfl (q_tn (z := 5) rfl ?_)
                        refine q_icge rfl rfl (fun c1280 => absurd c1280 (by decide)) (fun c1280 => ?_)
                        refine q_iload_n rfl rfl rfl ?_
                        refine q_iload rfl rfl rfl ?_
                        refine q_iushr rfl rfl (q_tn (z := 1) rfl ?_)
                        refine q_iconst rfl rfl ?_
                        refine q_iand rfl rfl (q_tn (z := 1) rfl ?_)
                        refine q_ifeq rfl rfl (fun c1281 => absurd c1281 (by decide)) (fun c1281 => ?_)
                        refine q_aload_n rfl rfl rfl ?_
                        refine q_iload rfl rfl rfl ?_
                        refine q_lald rfl rfl (by decide) rfl (by decide) (q_tnl (z := 1074791425) rfl ?_)
                        refine q_iload_n rfl rfl rfl ?_
                        refine q_nS2 rfl rfl (Or.inr rfl) rfl rfl ⟨rfl, rfl⟩ rfl ?_
                        change PQ _ _ _ mm_X11_says 0 [.long 1074791425, pm_un, .int 36] [] _ _ 0 0 _
                        refine q_lload_n rfl rfl rfl ?_
                        refine q_iload_n rfl rfl rfl ?_
                        refine q_lushr rfl rfl (q_tnl (z := 0) rfl ?_)
                        refine q_lconst rfl rfl ?_
                        refine q_land rfl rfl (q_tnl (z := 0) rfl ?_)
                        refine q_lconst rfl rfl ?_
                        refine q_lcmp rfl rfl (q_tn (z := 0) rfl ?_)
                        refine q_ifeq rfl rfl (fun c1282 => ?_) (fun c1282 => absurd (by decide) c1282)
                        refine q_iconst rfl rfl ?_
                        refine q_iret rfl rfl rfl ?_
                        refine ⟨_, rfl, ?_⟩
                        refine q_ifeq rfl rfl (fun c1283 => ?_) (fun c1283 => absurd (by decide) c1283)
                        refine q_icc4 (z := 5) rfl rfl rfl rfl rfl ?_
                        refine q_goto rfl ?_
                        refine q_iload rfl rfl rfl ?_
                        refine q_aload_n rfl rfl rfl ?_
                        refine q_alen rfl rfl (by decide) rfl rfl (q_tn (z := 5) rfl ?_)
                        refine q_icge rfl rfl (fun c1284 => ?_) (fun c1284 => absurd (by decide) c1284)
                        refine q_iload_n rfl rfl rfl ?_
                        refine q_iload_n rfl rfl rfl ?_
                        refine q_nS1 rfl rfl (Or.inl rfl) rfl rfl ⟨rfl, rfl⟩ rfl ?_
                        change PQ _ _ _ mm_J6_bitCount_0f7a4 0 [.int 31] [] _ _ 0 0 _
                        refine q_iload_n rfl rfl rfl ?_
                        refine q_iload_n rfl rfl rfl ?_
                        refine q_iconst rfl rfl ?_
                        refine q_iushr rfl rfl (q_tn (z := 15) rfl ?_)
                        refine q_ldcw rfl rfl ?_
                        refine q_iand rfl rfl (q_tn (z := 5) rfl ?_)
                        refine q_isub rfl rfl (q_tn (z := 26) rfl ?_)
                        refine q_ist0n rfl rfl rfl ?_
                        refine q_iload_n rfl rfl rfl ?_
                        refine q_ldcw rfl rfl ?_
                        refine q_iand rfl rfl (q_tn (z := 18) rfl ?_)
                        refine q_iload_n rfl rfl rfl ?_
                        refine q_iconst rfl rfl ?_
                        refine q_iushr rfl rfl (q_tn (z := 6) rfl ?_)
                        refine q_ldcw rfl rfl ?_
                        refine q_iand rfl rfl (q_tn (z := 2) rfl ?_)
                        refine q_iadd rfl rfl (q_tn (z := 20) rfl ?_)
                        refine q_ist0n rfl rfl rfl ?_
                        refine q_iload_n rfl rfl rfl ?_
                        refine q_iload_n rfl rfl rfl ?_
                        refine q_iconst rfl rfl ?_
                        refine q_iushr rfl rfl (q_tn (z := 1) rfl ?_)
                        refine q_iadd rfl rfl (q_tn (z := 21) rfl ?_)
                        refine q_ldcw rfl rfl ?_
                        refine q_iand rfl rfl (q_tn (z := 5) rfl ?_)
                        refine q_ist0n rfl rfl rfl ?_
                        refine q_iload_n rfl rfl rfl ?_
                        refine q_iload_n rfl rfl rfl ?_
                        refine q_bipush rfl rfl ?_
                        refine q_iushr rfl rfl (q_tn (z := 0) rfl ?_)
                        refine q_iadd rfl rfl (q_tn (z := 5) rfl ?_)
                        refine q_ist0n rfl rfl rfl ?_
                        refine q_iload_n rfl rfl rfl ?_
                        refine q_iload_n rfl rfl rfl ?_
                        refine q_bipush rfl rfl ?_
                        refine q_iushr rfl rfl (q_tn (z := 0) rfl ?_)
                        refine q_iadd rfl rfl (q_tn (z := 5) rfl ?_)
                        refine q_ist0n rfl rfl rfl ?_
                        refine q_iload_n rfl rfl rfl ?_
                        refine q_bipush rfl rfl ?_
                        refine q_iand rfl rfl (q_tn (z := 5) rfl ?_)
                        refine q_iret rfl rfl trivial ?_
                        refine ⟨_, rfl, ?_⟩
                        refine q_iload_n rfl rfl rfl ?_
                        refine q_isub rfl rfl (q_tn (z := 5) rfl ?_)
                        refine q_mmax (z := 5) rfl om_gp rfl rfl rfl ?_
                        refine q_iret rfl rfl trivial ?_
                        refine ⟨_, rfl, ?_⟩
                        refine q_ist6 rfl rfl rfl rfl ?_
                        refine q_aload_n rfl rfl rfl ?_
                        refine q_getf rfl rfl (by decide) (FW_42 S hW) rfl ?_
                        refine q_iload rfl rfl rfl ?_
                        refine q_nS2 rfl rfl (Or.inr rfl) rfl rfl ⟨rfl, rfl⟩ rfl ?_
                        change PQ _ _ _ mm_X11_says 0 [.long 0, pm_un, .int 36] [] _ _ 0 0 _
                        refine q_lload_n rfl rfl rfl ?_
                        refine q_iload_n rfl rfl rfl ?_
                        refine q_lushr rfl rfl (q_tnl (z := 0) rfl ?_)
                        refine q_lconst rfl rfl ?_
                        refine q_land rfl rfl (q_tnl (z := 0) rfl ?_)
                        refine q_lconst rfl rfl ?_
                        refine q_lcmp rfl rfl (q_tn (z := 0) rfl ?_)
                        refine q_ifeq rfl rfl (fun c1285 => ?_) (fun c1285 => absurd (by decide) c1285)
                        refine q_iconst rfl rfl ?_
                        refine q_iret rfl rfl rfl ?_
                        refine ⟨_, rfl, ?_⟩
                        refine q_ifne rfl rfl (fun c1286 => ?_) (fun c1286 => absurd (by decide) c1286)
                        refine q_iload rfl rfl rfl ?_
                        refine q_iload rfl rfl rfl ?_
                        refine q_icge rfl rfl (fun c1287 => ?_) (fun c1287 => absurd (by decide) c1287)
                        refine q_icc5 (z := 37) rfl rfl rfl rfl rfl ?_
                        refine q_goto rfl ?_
                        refine q_iload rfl rfl rfl ?_
                        refine q_bipush rfl rfl ?_
                        refine q_icge rfl rfl (fun c1288 => absurd c1288 (by decide)) (fun c1288 => ?_)
                        refine q_aload_n rfl rfl rfl ?_
                        refine q_iload_n rfl rfl rfl ?_
                        refine q_iload rfl rfl rfl ?_
                        refine q_nS3 rfl rfl (Or.inl rfl) rfl rfl ⟨rfl, rfl⟩ rfl ?_
                        change PQ _ _ _ mm_X3_greaterPart 0 [.ref 45, .int 31, .int 37, pm_un, pm_un] [] _ _ 0 0 _
                        refine q_iconst rfl rfl ?_
                        refine q_ist3n rfl rfl rfl rfl ?_
                        refine q_iconst rfl rfl ?_
                        refine q_ist4 rfl rfl rfl rfl ?_
                        refine q_iload rfl rfl rfl ?_
                        refine q_aload_n rfl rfl rfl ?_
                        refine q_alen rfl rfl (by decide) rfl rfl (q_tn (z := 5) rfl ?_)
                        refine q_icge rfl rfl (fun c1289 => absurd c1289 (by decide)) (fun c1289 => ?_)
                        refine q_iload_n rfl rfl rfl ?_
                        refine q_iload rfl rfl rfl ?_
                        refine q_iushr rfl rfl (q_tn (z := 31) rfl ?_)
                        refine q_iconst rfl rfl ?_
                        refine q_iand rfl rfl (q_tn (z := 1) rfl ?_)
                        refine q_ifeq rfl rfl (fun c1290 => absurd c1290 (by decide)) (fun c1290 => ?_)
                        refine q_aload_n rfl rfl rfl ?_
                        refine q_iload rfl rfl rfl ?_
                        refine q_lald rfl rfl (by decide) rfl (by decide) (q_tnl (z := 1074791425) rfl ?_)
                        refine q_iload_n rfl rfl rfl ?_
                        refine q_nS2 rfl rfl (Or.inr rfl) rfl rfl ⟨rfl, rfl⟩ rfl ?_
                        change PQ _ _ _ mm_X11_says 0 [.long 1074791425, pm_un, .int 37] [] _ _ 0 0 _
                        refine q_lload_n rfl rfl rfl ?_
                        refine q_iload_n rfl rfl rfl ?_
                        refine q_lushr rfl rfl (q_tnl (z := 0) rfl ?_)
                        refine q_lconst rfl rfl ?_
                        refine q_land rfl rfl (q_tnl (z := 0) rfl ?_)
                        refine q_lconst rfl rfl ?_
                        refine q_lcmp rfl rfl (q_tn (z := 0) rfl ?_)
                        refine q_ifeq rfl rfl (fun c1291 => ?_) (fun c1291 => absurd (by decide) c1291)
                        refine q_iconst rfl rfl ?_
                        refine q_iret rfl rfl rfl ?_
                        refine ⟨_, rfl, ?_⟩
                        refine q_ifeq rfl rfl (fun c1292 => ?_) (fun c1292 => absurd (by decide) c1292)
                        refine q_icc4 (z := 1) rfl rfl rfl rfl rfl ?_
                        refine q_goto rfl ?_
                        refine q_iload rfl rfl rfl ?_
                        refine q_aload_n rfl rfl rfl ?_
                        refine q_alen rfl rfl (by decide) rfl rfl (q_tn (z := 5) rfl ?_)
                        refine q_icge rfl rfl (fun c1293 => absurd c1293 (by decide)) (fun c1293 => ?_)
                        refine q_iload_n rfl rfl rfl ?_
                        refine q_iload rfl rfl rfl ?_
                        refine q_iushr rfl rfl (q_tn (z := 15) rfl ?_)
                        refine q_iconst rfl rfl ?_
                        refine q_iand rfl rfl (q_tn (z := 1) rfl ?_)
                        refine q_ifeq rfl rfl (fun c1294 => absurd c1294 (by decide)) (fun c1294 => ?_)
                        refine q_aload_n rfl rfl rfl ?_
                        refine q_iload rfl rfl rfl ?_
                        refine q_lald rfl rfl (by decide) rfl (by decide) (q_tnl (z := 1074791425) rfl ?_)
                        refine q_iload_n rfl rfl rfl ?_
                        refine q_nS2 rfl rfl (Or.inr rfl) rfl rfl ⟨rfl, rfl⟩ rfl ?_
                        change PQ _ _ _ mm_X11_says 0 [.long 1074791425, pm_un, .int 37] [] _ _ 0 0 _
                        refine q_lload_n rfl rfl rfl ?_
                        refine q_iload_n rfl rfl rfl ?_
                        refine q_lushr rfl rfl (q_tnl (z := 0) rfl ?_)
                        refine q_lconst rfl rfl ?_
                        refine q_land rfl rfl (q_tnl (z := 0) rfl ?_)
                        refine q_lconst rfl rfl ?_
                        refine q_lcmp rfl rfl (q_tn (z := 0) rfl ?_)
                        refine q_ifeq rfl rfl (fun c1295 => ?_) (fun c1295 => absurd (by decide) c1295)
                        refine q_iconst rfl rfl ?_
                        refine q_iret rfl rfl rfl ?_
                        refine ⟨_, rfl, ?_⟩
                        refine q_ifeq rfl rfl (fun c1296 => ?_) (fun c1296 => absurd (by decide) c1296)
                        refine q_icc4 (z := 2) rfl rfl rfl rfl rfl ?_
                        refine q_goto rfl ?_
                        refine q_iload rfl rfl rfl ?_
                        refine q_aload_n rfl rfl rfl ?_
                        refine q_alen rfl rfl (by decide) rfl rfl (q_tn (z := 5) rfl ?_)
                        refine q_icge rfl rfl (fun c1297 => absurd c1297 (by decide)) (fun c1297 => ?_)
                        refine q_iload_n rfl rfl rfl ?_
                        refine q_iload rfl rfl rfl ?_
                        refine q_iushr rfl rfl (q_tn (z := 7) rfl ?_)
                        refine q_iconst rfl rfl ?_
                        refine q_iand rfl rfl (q_tn (z := 1) rfl ?_)
                        refine q_ifeq rfl rfl (fun c1298 => absurd c1298 (by decide)) (fun c1298 => ?_)
                        refine q_aload_n rfl rfl rfl ?_
                        refine q_iload rfl rfl rfl ?_
                        refine q_lald rfl rfl (by decide) rfl (by decide) (q_tnl (z := 1074791425) rfl ?_)
                        refine q_iload_n rfl rfl rfl ?_
                        refine q_nS2 rfl rfl (Or.inr rfl) rfl rfl ⟨rfl, rfl⟩ rfl ?_
                        change PQ _ _ _ mm_X11_says 0 [.long 1074791425, pm_un, .int 37] [] _ _ 0 0 _
                        refine q_lload_n rfl rfl rfl ?_
                        refine q_iload_n rfl rfl rfl ?_
                        refine q_lushr rfl rfl (q_tnl (z := 0) rfl ?_)
                        refine q_lconst rfl rfl ?_
                        refine q_land rfl rfl (q_tnl (z := 0) rfl ?_)
                        refine q_lconst rfl rfl ?_
                        refine q_lcmp rfl rfl (q_tn (z := 0) rfl ?_)
                        refine q_ifeq rfl rfl (fun c1299 => ?_) (fun c1299 => absurd (by decide) c1299)
                        refine q_iconst rfl rfl ?_
                        refine q_iret rfl rfl rfl ?_
                        refine ⟨_, rfl, ?_⟩
                        refine q_ifeq rfl rfl (fun c1300 => ?_) (fun c1300 => absurd (by decide) c1300)
                        refine q_icc4 (z := 3) rfl rfl rfl rfl rfl ?_
                        refine q_goto rfl ?_
                        refine q_iload rfl rfl rfl ?_
                        refine q_aload_n rfl rfl rfl ?_
                        refine q_alen rfl rfl (by decide) rfl rfl (q_tn (z := 5) rfl ?_)
                        refine q_icge rfl rfl (fun c1301 => absurd c1301 (by decide)) (fun c1301 => ?_)
                        refine q_iload_n rfl rfl rfl ?_
                        refine q_iload rfl rfl rfl ?_
                        refine q_iushr rfl rfl (q_tn (z := 3) rfl ?_)
                        refine q_iconst rfl rfl ?_
                        refine q_iand rfl rfl (q_tn (z := 1) rfl ?_)
                        refine q_ifeq rfl rfl (fun c1302 => absurd c1302 (by decide)) (fun c1302 => ?_)
                        refine q_aload_n rfl rfl rfl ?_
                        refine q_iload rfl rfl rfl ?_
                        refine q_lald rfl rfl (by decide) rfl (by decide) (q_tnl (z := 1074791425) rfl ?_)
                        refine q_iload_n rfl rfl rfl ?_
                        refine q_nS2 rfl rfl (Or.inr rfl) rfl rfl ⟨rfl, rfl⟩ rfl ?_
                        change PQ _ _ _ mm_X11_says 0 [.long 1074791425, pm_un, .int 37] [] _ _ 0 0 _
                        refine q_lload_n rfl rfl rfl ?_
                        refine q_iload_n rfl rfl rfl ?_
                        refine q_lushr rfl rfl (q_tnl (z := 0) rfl ?_)
                        refine q_lconst rfl rfl ?_
                        refine q_land rfl rfl (q_tnl (z := 0) rfl ?_)
                        refine q_lconst rfl rfl ?_
                        refine q_lcmp rfl rfl (q_tn (z := 0) rfl ?_)
                        refine q_ifeq rfl rfl (fun c1303 => ?_) (fun c1303 => absurd (by decide) c1303)
                        refine q_iconst rfl rfl ?_
                        refine q_iret rfl rfl rfl ?_
                        refine ⟨_, rfl, ?_⟩
                        refine q_ifeq rfl rfl (fun c1304 => ?_) (fun c1304 => absurd (by decide) c1304)
                        refine q_icc4 (z := 4) rfl rfl rfl rfl rfl ?_
                        refine q_goto rfl ?_
                        refine q_iload rfl rfl rfl ?_
                        refine q_aload_n rfl rfl rfl ?_
                        refine q_alen rfl rfl (by decide) rfl rfl (q_tn (z := 5) rfl ?_)
                        refine q_icge rfl rfl (fun c1305 => absurd c1305 (by decide)) (fun c1305 => ?_)
                        refine q_iload_n rfl rfl rfl ?_
                        refine q_iload rfl rfl rfl ?_
                        refine q_iushr rfl rfl (q_tn (z := 1) rfl ?_)
                        refine q_iconst rfl rfl ?_
                        refine q_iand rfl rfl (q_tn (z := 1) rfl ?_)
                        refine q_ifeq rfl rfl (fun c1306 => absurd c1306 (by decide)) (fun c1306 => ?_)
                        refine q_aload_n rfl rfl rfl ?_
                        refine q_iload rfl rfl rfl ?_
                        refine q_lald rfl rfl (by decide) rfl (by decide) (q_tnl (z := 1074791425) rfl ?_)
                        refine q_iload_n rfl rfl rfl ?_
                        refine q_nS2 rfl rfl (Or.inr rfl) rfl rfl ⟨rfl, rfl⟩ rfl ?_
                        change PQ _ _ _ mm_X11_says 0 [.long 1074791425, pm_un, .int 37] [] _ _ 0 0 _
                        refine q_lload_n rfl rfl rfl ?_
                        refine q_iload_n rfl rfl rfl ?_
                        refine q_lushr rfl rfl (q_tnl (z := 0) rfl ?_)
                        refine q_lconst rfl rfl ?_
                        refine q_land rfl rfl (q_tnl (z := 0) rfl ?_)
                        refine q_lconst rfl rfl ?_
                        refine q_lcmp rfl rfl (q_tn (z := 0) rfl ?_)
                        refine q_ifeq rfl rfl (fun c1307 => ?_) (fun c1307 => absurd (by decide) c1307)
                        refine q_iconst rfl rfl ?_
                        refine q_iret rfl rfl rfl ?_
                        refine ⟨_, rfl, ?_⟩
                        refine q_ifeq rfl rfl (fun c1308 => ?_) (fun c1308 => absurd (by decide) c1308)
                        refine q_icc4 (z := 5) rfl rfl rfl rfl rfl ?_
                        refine q_goto rfl ?_
                        refine q_iload rfl rfl rfl ?_
                        refine q_aload_n rfl rfl rfl ?_
                        refine q_alen rfl rfl (by decide) rfl rfl (q_tn (z := 5) rfl ?_)
                        refine q_icge rfl rfl (fun c1309 => ?_) (fun c1309 => absurd (by decide) c1309)
                        refine q_iload_n rfl rfl rfl ?_
                        refine q_iload_n rfl rfl rfl ?_
                        refine q_nS1 rfl rfl (Or.inl rfl) rfl rfl ⟨rfl, rfl⟩ rfl ?_
                        change PQ _ _ _ mm_J6_bitCount_0f7a4 0 [.int 31] [] _ _ 0 0 _
                        refine q_iload_n rfl rfl rfl ?_
                        refine q_iload_n rfl rfl rfl ?_
                        refine q_iconst rfl rfl ?_
                        refine q_iushr rfl rfl (q_tn (z := 15) rfl ?_)
                        refine q_ldcw rfl rfl ?_
                        refine q_iand rfl rfl (q_tn (z := 5) rfl ?_)
                        refine q_isub rfl rfl (q_tn (z := 26) rfl ?_)
                        refine q_ist0n rfl rfl rfl ?_
                        refine q_iload_n rfl rfl rfl ?_
                        refine q_ldcw rfl rfl ?_
                        refine q_iand rfl rfl (q_tn (z := 18) rfl ?_)
                        refine q_iload_n rfl rfl rfl ?_
                        refine q_iconst rfl rfl ?_
                        refine q_iushr rfl rfl (q_tn (z := 6) rfl ?_)
                        refine q_ldcw rfl rfl ?_
                        refine q_iand rfl rfl (q_tn (z := 2) rfl ?_)
                        refine q_iadd rfl rfl (q_tn (z := 20) rfl ?_)
                        refine q_ist0n rfl rfl rfl ?_
                        refine q_iload_n rfl rfl rfl ?_
                        refine q_iload_n rfl rfl rfl ?_
                        refine q_iconst rfl rfl ?_
                        refine q_iushr rfl rfl (q_tn (z := 1) rfl ?_)
                        refine q_iadd rfl rfl (q_tn (z := 21) rfl ?_)
                        refine q_ldcw rfl rfl ?_
                        refine q_iand rfl rfl (q_tn (z := 5) rfl ?_)
                        refine q_ist0n rfl rfl rfl ?_
                        refine q_iload_n rfl rfl rfl ?_
                        refine q_iload_n rfl rfl rfl ?_
                        refine q_bipush rfl rfl ?_
                        refine q_iushr rfl rfl (q_tn (z := 0) rfl ?_)
                        refine q_iadd rfl rfl (q_tn (z := 5) rfl ?_)
                        refine q_ist0n rfl rfl rfl ?_
                        refine q_iload_n rfl rfl rfl ?_
                        refine q_iload_n rfl rfl rfl ?_
                        refine q_bipush rfl rfl ?_
                        refine q_iushr rfl rfl (q_tn (z := 0) rfl ?_)
                        refine q_iadd rfl rfl (q_tn (z := 5) rfl ?_)
                        refine q_ist0n rfl rfl rfl ?_
                        refine q_iload_n rfl rfl rfl ?_
                        refine q_bipush rfl rfl ?_
                        refine q_iand rfl rfl (q_tn (z := 5) rfl ?_)
                        refine q_iret rfl rfl trivial ?_
                        refine ⟨_, rfl, ?_⟩
                        refine q_iload_n rfl rfl rfl ?_
                        refine q_isub rfl rfl (q_tn (z := 5) rfl ?_)
                        refine q_mmax (z := 5) rfl om_gp rfl rfl rfl ?_
                        refine q_iret rfl rfl trivial ?_
                        refine ⟨_, rfl, ?_⟩
                        refine q_ist6 rfl rfl rfl rfl ?_
                        refine q_aload_n rfl rfl rfl ?_
                        refine q_getf rfl rfl (by decide) (FW_42 S hW) rfl ?_
                        refine q_iload rfl rfl rfl ?_
                        refine q_nS2 rfl rfl (Or.inr rfl) rfl rfl ⟨rfl, rfl⟩ rfl ?_
                        change PQ _ _ _ mm_X11_says 0 [.long 0, pm_un, .int 37] [] _ _ 0 0 _
                        refine q_lload_n rfl rfl rfl ?_
                        refine q_iload_n rfl rfl rfl ?_
                        refine q_lushr rfl rfl (q_tnl (z := 0) rfl ?_)
                        refine q_lconst rfl rfl ?_
                        refine q_land rfl rfl (q_tnl (z := 0) rfl ?_)
                        refine q_lconst rfl rfl ?_
                        refine q_lcmp rfl rfl (q_tn (z := 0) rfl ?_)
                        refine q_ifeq rfl rfl (fun c1310 => ?_) (fun c1310 => absurd (by decide) c1310)
                        refine q_iconst rfl rfl ?_
                        refine q_iret rfl rfl rfl ?_
                        refine ⟨_, rfl, ?_⟩
                        refine q_ifne rfl rfl (fun c1311 => ?_) (fun c1311 => absurd (by decide) c1311)
                        refine q_iload rfl rfl rfl ?_
                        refine q_iload rfl rfl rfl ?_
                        refine q_icge rfl rfl (fun c1312 => ?_) (fun c1312 => absurd (by decide) c1312)
                        refine q_icc5 (z := 38) rfl rfl rfl rfl rfl ?_
                        refine q_goto rfl ?_
                        refine q_iload rfl rfl rfl ?_
                        refine q_bipush rfl rfl ?_
                        refine q_icge rfl rfl (fun c1313 => absurd c1313 (by decide)) (fun c1313 => ?_)
                        refine q_aload_n rfl rfl rfl ?_
                        refine q_iload_n rfl rfl rfl ?_
                        refine q_iload rfl rfl rfl ?_
                        refine q_nS3 rfl rfl (Or.inl rfl) rfl rfl ⟨rfl, rfl⟩ rfl ?_
                        change PQ _ _ _ mm_X3_greaterPart 0 [.ref 45, .int 31, .int 38, pm_un, pm_un] [] _ _ 0 0 _
                        refine q_iconst rfl rfl ?_
                        refine q_ist3n rfl rfl rfl rfl ?_
                        refine q_iconst rfl rfl ?_
                        refine q_ist4 rfl rfl rfl rfl ?_
                        refine q_iload rfl rfl rfl ?_
                        refine q_aload_n rfl rfl rfl ?_
                        refine q_alen rfl rfl (by decide) rfl rfl (q_tn (z := 5) rfl ?_)
                        refine q_icge rfl rfl (fun c1314 => absurd c1314 (by decide)) (fun c1314 => ?_)
                        refine q_iload_n rfl rfl rfl ?_
                        refine q_iload rfl rfl rfl ?_
                        refine q_iushr rfl rfl (q_tn (z := 31) rfl ?_)
                        refine q_iconst rfl rfl ?_
                        refine q_iand rfl rfl (q_tn (z := 1) rfl ?_)
                        refine q_ifeq rfl rfl (fun c1315 => absurd c1315 (by decide)) (fun c1315 => ?_)
                        refine q_aload_n rfl rfl rfl ?_
                        refine q_iload rfl rfl rfl ?_
                        refine q_lald rfl rfl (by decide) rfl (by decide) (q_tnl (z := 1074791425) rfl ?_)
                        refine q_iload_n rfl rfl rfl ?_
                        refine q_nS2 rfl rfl (Or.inr rfl) rfl rfl ⟨rfl, rfl⟩ rfl ?_
                        change PQ _ _ _ mm_X11_says 0 [.long 1074791425, pm_un, .int 38] [] _ _ 0 0 _
                        refine q_lload_n rfl rfl rfl ?_
                        refine q_iload_n rfl rfl rfl ?_
                        refine q_lushr rfl rfl (q_tnl (z := 0) rfl ?_)
                        refine q_lconst rfl rfl ?_
                        refine q_land rfl rfl (q_tnl (z := 0) rfl ?_)
                        refine q_lconst rfl rfl ?_
                        refine q_lcmp rfl rfl (q_tn (z := 0) rfl ?_)
                        refine q_ifeq rfl rfl (fun c1316 => ?_) (fun c1316 => absurd (by decide) c1316)
                        refine q_iconst rfl rfl ?_
                        refine q_iret rfl rfl rfl ?_
                        refine ⟨_, rfl, ?_⟩
                        refine q_ifeq rfl rfl (fun c1317 => ?_) (fun c1317 => absurd (by decide) c1317)
                        refine q_icc4 (z := 1) rfl rfl rfl rfl rfl ?_
                        refine q_goto rfl ?_
                        refine q_iload rfl rfl rfl ?_
                        refine q_aload_n rfl rfl rfl ?_
                        refine q_alen rfl rfl (by decide) rfl rfl (q_tn (z := 5) rfl ?_)
                        refine q_icge rfl rfl (fun c1318 => absurd c1318 (by decide)) (fun c1318 => ?_)
                        refine q_iload_n rfl rfl rfl ?_
                        refine q_iload rfl rfl rfl ?_
                        refine q_iushr rfl rfl (q_tn (z := 15) rfl ?_)
                        refine q_iconst rfl rfl ?_
                        refine q_iand rfl rfl (q_tn (z := 1) rfl ?_)
                        refine q_ifeq rfl rfl (fun c1319 => absurd c1319 (by decide)) (fun c1319 => ?_)
                        refine q_aload_n rfl rfl rfl ?_
                        refine q_iload rfl rfl rfl ?_
                        refine q_lald rfl rfl (by decide) rfl (by decide) (q_tnl (z := 1074791425) rfl ?_)
                        refine q_iload_n rfl rfl rfl ?_
                        refine q_nS2 rfl rfl (Or.inr rfl) rfl rfl ⟨rfl, rfl⟩ rfl ?_
                        change PQ _ _ _ mm_X11_says 0 [.long 1074791425, pm_un, .int 38] [] _ _ 0 0 _
                        refine q_lload_n rfl rfl rfl ?_
                        refine q_iload_n rfl rfl rfl ?_
                        refine q_lushr rfl rfl (q_tnl (z := 0) rfl ?_)
                        refine q_lconst rfl rfl ?_
                        refine q_land rfl rfl (q_tnl (z := 0) rfl ?_)
                        refine q_lconst rfl rfl ?_
                        refine q_lcmp rfl rfl (q_tn (z := 0) rfl ?_)
                        refine q_ifeq rfl rfl (fun c1320 => ?_) (fun c1320 => absurd (by decide) c1320)
                        refine q_iconst rfl rfl ?_
                        refine q_iret rfl rfl rfl ?_
                        refine ⟨_, rfl, ?_⟩
                        refine q_ifeq rfl rfl (fun c1321 => ?_) (fun c1321 => absurd (by decide) c1321)
                        refine q_icc4 (z := 2) rfl rfl rfl rfl rfl ?_
                        refine q_goto rfl ?_
                        refine q_iload rfl rfl rfl ?_
                        refine q_aload_n rfl rfl rfl ?_
                        refine q_alen rfl rfl (by decide) rfl rfl (q_tn (z := 5) rfl ?_)
                        refine q_icge rfl rfl (fun c1322 => absurd c1322 (by decide)) (fun c1322 => ?_)
                        refine q_iload_n rfl rfl rfl ?_
                        refine q_iload rfl rfl rfl ?_
                        refine q_iushr rfl rfl (q_tn (z := 7) rfl ?_)
                        refine q_iconst rfl rfl ?_
                        refine q_iand rfl rfl (q_tn (z := 1) rfl ?_)
                        refine q_ifeq rfl rfl (fun c1323 => absurd c1323 (by decide)) (fun c1323 => ?_)
                        refine q_aload_n rfl rfl rfl ?_
                        refine q_iload rfl rfl rfl ?_
                        refine q_lald rfl rfl (by decide) rfl (by decide) (q_tnl (z := 1074791425) rfl ?_)
                        refine q_iload_n rfl rfl rfl ?_
                        refine q_nS2 rfl rfl (Or.inr rfl) rfl rfl ⟨rfl, rfl⟩ rfl ?_
                        change PQ _ _ _ mm_X11_says 0 [.long 1074791425, pm_un, .int 38] [] _ _ 0 0 _
                        refine q_lload_n rfl rfl rfl ?_
                        refine q_iload_n rfl rfl rfl ?_
                        refine q_lushr rfl rfl (q_tnl (z := 0) rfl ?_)
                        refine q_lconst rfl rfl ?_
                        refine q_land rfl rfl (q_tnl (z := 0) rfl ?_)
                        refine q_lconst rfl rfl ?_
                        refine q_lcmp rfl rfl (q_tn (z := 0) rfl ?_)
                        refine q_ifeq rfl rfl (fun c1324 => ?_) (fun c1324 => absurd (by decide) c1324)
                        refine q_iconst rfl rfl ?_
                        refine q_iret rfl rfl rfl ?_
                        refine ⟨_, rfl, ?_⟩
                        refine q_ifeq rfl rfl (fun c1325 => ?_) (fun c1325 => absurd (by decide) c1325)
                        refine q_icc4 (z := 3) rfl rfl rfl rfl rfl ?_
                        refine q_goto rfl ?_
                        refine q_iload rfl rfl rfl ?_
                        refine q_aload_n rfl rfl rfl ?_
                        refine q_alen rfl rfl (by decide) rfl rfl (q_tn (z := 5) rfl ?_)
                        refine q_icge rfl rfl (fun c1326 => absurd c1326 (by decide)) (fun c1326 => ?_)
                        refine q_iload_n rfl rfl rfl ?_
                        refine q_iload rfl rfl rfl ?_
                        refine q_iushr rfl rfl (q_tn (z := 3) rfl ?_)
                        refine q_iconst rfl rfl ?_
                        refine q_iand rfl rfl (q_tn (z := 1) rfl ?_)
                        refine q_ifeq rfl rfl (fun c1327 => absurd c1327 (by decide)) (fun c1327 => ?_)
                        refine q_aload_n rfl rfl rfl ?_
                        refine q_iload rfl rfl rfl ?_
                        refine q_lald rfl rfl (by decide) rfl (by decide) (q_tnl (z := 1074791425) rfl ?_)
                        refine q_iload_n rfl rfl rfl ?_
                        refine q_nS2 rfl rfl (Or.inr rfl) rfl rfl ⟨rfl, rfl⟩ rfl ?_
                        change PQ _ _ _ mm_X11_says 0 [.long 1074791425, pm_un, .int 38] [] _ _ 0 0 _
                        refine q_lload_n rfl rfl rfl ?_
                        refine q_iload_n rfl rfl rfl ?_
                        refine q_lushr rfl rfl (q_tnl (z := 0) rfl ?_)
                        refine q_lconst rfl rfl ?_
                        refine q_land rfl rfl (q_tnl (z := 0) rfl ?_)
                        refine q_lconst rfl rfl ?_
                        refine q_lcmp rfl rfl (q_tn (z := 0) rfl ?_)
                        refine q_ifeq rfl rfl (fun c1328 => ?_) (fun c1328 => absurd (by decide) c1328)
                        refine q_iconst rfl rfl ?_
                        refine q_iret rfl rfl rfl ?_
                        refine ⟨_, rfl, ?_⟩
                        refine q_ifeq rfl rfl (fun c1329 => ?_) (fun c1329 => absurd (by decide) c1329)
                        refine q_icc4 (z := 4) rfl rfl rfl rfl rfl ?_
                        refine q_goto rfl ?_
                        refine q_iload rfl rfl rfl ?_
                        refine q_aload_n rfl rfl rfl ?_
                        refine q_alen rfl rfl (by decide) rfl rfl (q_tn (z := 5) rfl ?_)
                        refine q_icge rfl rfl (fun c1330 => absurd c1330 (by decide)) (fun c1330 => ?_)
                        refine q_iload_n rfl rfl rfl ?_
                        refine q_iload rfl rfl rfl ?_
                        refine q_iushr rfl rfl (q_tn (z := 1) rfl ?_)
                        refine q_iconst rfl rfl ?_
                        refine q_iand rfl rfl (q_tn (z := 1) rfl ?_)
                        refine q_ifeq rfl rfl (fun c1331 => absurd c1331 (by decide)) (fun c1331 => ?_)
                        refine q_aload_n rfl rfl rfl ?_
                        refine q_iload rfl rfl rfl ?_
                        refine q_lald rfl rfl (by decide) rfl (by decide) (q_tnl (z := 1074791425) rfl ?_)
                        refine q_iload_n rfl rfl rfl ?_
                        refine q_nS2 rfl rfl (Or.inr rfl) rfl rfl ⟨rfl, rfl⟩ rfl ?_
                        change PQ _ _ _ mm_X11_says 0 [.long 1074791425, pm_un, .int 38] [] _ _ 0 0 _
                        refine q_lload_n rfl rfl rfl ?_
                        refine q_iload_n rfl rfl rfl ?_
                        refine q_lushr rfl rfl (q_tnl (z := 0) rfl ?_)
                        refine q_lconst rfl rfl ?_
                        refine q_land rfl rfl (q_tnl (z := 0) rfl ?_)
                        refine q_lconst rfl rfl ?_
                        refine q_lcmp rfl rfl (q_tn (z := 0) rfl ?_)
                        refine q_ifeq rfl rfl (fun c1332 => ?_) (fun c1332 => absurd (by decide) c1332)
                        refine q_iconst rfl rfl ?_
                        refine q_iret rfl rfl rfl ?_
                        refine ⟨_, rfl, ?_⟩
                        refine q_ifeq rfl rfl (fun c1333 => ?_) (fun c1333 => absurd (by decide) c1333)
                        refine q_icc4 (z := 5) rfl rfl rfl rfl rfl ?_
                        refine q_goto rfl ?_
                        refine q_iload rfl rfl rfl ?_
                        refine q_aload_n rfl rfl rfl ?_
                        refine q_alen rfl rfl (by decide) rfl rfl (q_tn (z := 5) rfl ?_)
                        refine q_icge rfl rfl (fun c1334 => ?_) (fun c1334 => absurd (by decide) c1334)
                        refine q_iload_n rfl rfl rfl ?_
                        refine q_iload_n rfl rfl rfl ?_
                        refine q_nS1 rfl rfl (Or.inl rfl) rfl rfl ⟨rfl, rfl⟩ rfl ?_
                        change PQ _ _ _ mm_J6_bitCount_0f7a4 0 [.int 31] [] _ _ 0 0 _
                        refine q_iload_n rfl rfl rfl ?_
                        refine q_iload_n rfl rfl rfl ?_
                        refine q_iconst rfl rfl ?_
                        refine q_iushr rfl rfl (q_tn (z := 15) rfl ?_)
                        refine q_ldcw rfl rfl ?_
                        refine q_iand rfl rfl (q_tn (z := 5) rfl ?_)
                        refine q_isub rfl rfl (q_tn (z := 26) rfl ?_)
                        refine q_ist0n rfl rfl rfl ?_
                        refine q_iload_n rfl rfl rfl ?_
                        refine q_ldcw rfl rfl ?_
                        refine q_iand rfl rfl (q_tn (z := 18) rfl ?_)
                        refine q_iload_n rfl rfl rfl ?_
                        refine q_iconst rfl rfl ?_
                        refine q_iushr rfl rfl (q_tn (z := 6) rfl ?_)
                        refine q_ldcw rfl rfl ?_
                        refine q_iand rfl rfl (q_tn (z := 2) rfl ?_)
                        refine q_iadd rfl rfl (q_tn (z := 20) rfl ?_)
                        refine q_ist0n rfl rfl rfl ?_
                        refine q_iload_n rfl rfl rfl ?_
                        refine q_iload_n rfl rfl rfl ?_
                        refine q_iconst rfl rfl ?_
                        refine q_iushr rfl rfl (q_tn (z := 1) rfl ?_)
                        refine q_iadd rfl rfl (q_tn (z := 21) rfl ?_)
                        refine q_ldcw rfl rfl ?_
                        refine q_iand rfl rfl (q_tn (z := 5) rfl ?_)
                        refine q_ist0n rfl rfl rfl ?_
                        refine q_iload_n rfl rfl rfl ?_
                        refine q_iload_n rfl rfl rfl ?_
                        refine q_bipush rfl rfl ?_
                        refine q_iushr rfl rfl (q_tn (z := 0) rfl ?_)
                        refine q_iadd rfl rfl (q_tn (z := 5) rfl ?_)
                        refine q_ist0n rfl rfl rfl ?_
                        refine q_iload_n rfl rfl rfl ?_
                        refine q_iload_n rfl rfl rfl ?_
                        refine q_bipush rfl rfl ?_
                        refine q_iushr rfl rfl (q_tn (z := 0) rfl ?_)
                        refine q_iadd rfl rfl (q_tn (z := 5) rfl ?_)
                        refine q_ist0n rfl rfl rfl ?_
                        refine q_iload_n rfl rfl rfl ?_
                        refine q_bipush rfl rfl ?_
                        refine q_iand rfl rfl (q_tn (z := 5) rfl ?_)
                        refine q_iret rfl rfl trivial ?_
                        refine ⟨_, rfl, ?_⟩
                        refine q_iload_n rfl rfl rfl ?_
                        refine q_isub rfl rfl (q_tn (z := 5) rfl ?_)
                        refine q_mmax (z := 5) rfl om_gp rfl rfl rfl ?_
                        refine q_iret rfl rfl trivial ?_
                        refine ⟨_, rfl, ?_⟩
                        refine q_ist6 rfl rfl rfl rfl ?_
                        refine q_aload_n rfl rfl rfl ?_
                        refine q_getf rfl rfl (by decide) (FW_42 S hW) rfl ?_
                        refine q_iload rfl rfl rfl ?_
                        refine q_nS2 rfl rfl (Or.inr rfl) rfl rfl ⟨rfl, rfl⟩ rfl ?_
                        change PQ _ _ _ mm_X11_says 0 [.long 0, pm_un, .int 38] [] _ _ 0 0 _
                        refine q_lload_n rfl rfl rfl ?_
                        refine q_iload_n rfl rfl rfl ?_
                        refine q_lushr rfl rfl (q_tnl (z := 0) rfl ?_)
                        refine q_lconst rfl rfl ?_
                        refine q_land rfl rfl (q_tnl (z := 0) rfl ?_)
                        refine q_lconst rfl rfl ?_
                        refine q_lcmp rfl rfl (q_tn (z := 0) rfl ?_)
                        refine q_ifeq rfl rfl (fun c1335 => ?_) (fun c1335 => absurd (by decide) c1335)
                        refine q_iconst rfl rfl ?_
                        refine q_iret rfl rfl rfl ?_
                        refine ⟨_, rfl, ?_⟩
                        refine q_ifne rfl rfl (fun c1336 => ?_) (fun c1336 => absurd (by decide) c1336)
                        refine q_iload rfl rfl rfl ?_
                        refine q_iload rfl rfl rfl ?_
                        refine q_icge rfl rfl (fun c1337 => ?_) (fun c1337 => absurd (by decide) c1337)
                        refine q_icc5 (z := 39) rfl rfl rfl rfl rfl ?_
                        refine q_goto rfl ?_
                        refine q_iload rfl rfl rfl ?_
                        refine q_bipush rfl rfl ?_
                        refine q_icge rfl rfl (fun c1338 => absurd c1338 (by decide)) (fun c1338 => ?_)
                        refine q_aload_n rfl rfl rfl ?_
                        refine q_iload_n rfl rfl rfl ?_
                        refine q_iload rfl rfl rfl ?_
                        refine q_nS3 rfl rfl (Or.inl rfl) rfl rfl ⟨rfl, rfl⟩ rfl ?_
                        change PQ _ _ _ mm_X3_greaterPart 0 [.ref 45, .int 31, .int 39, pm_un, pm_un] [] _ _ 0 0 _
                        refine q_iconst rfl rfl ?_
                        refine q_ist3n rfl rfl rfl rfl ?_
                        refine q_iconst rfl rfl ?_
                        refine q_ist4 rfl rfl rfl rfl ?_
                        refine q_iload rfl rfl rfl ?_
                        refine q_aload_n rfl rfl rfl ?_
                        refine q_alen rfl rfl (by decide) rfl rfl (q_tn (z := 5) rfl ?_)
                        refine q_icge rfl rfl (fun c1339 => absurd c1339 (by decide)) (fun c1339 => ?_)
                        refine q_iload_n rfl rfl rfl ?_
                        refine q_iload rfl rfl rfl ?_
                        refine q_iushr rfl rfl (q_tn (z := 31) rfl ?_)
                        refine q_iconst rfl rfl ?_
                        refine q_iand rfl rfl (q_tn (z := 1) rfl ?_)
                        refine q_ifeq rfl rfl (fun c1340 => absurd c1340 (by decide)) (fun c1340 => ?_)
                        refine q_aload_n rfl rfl rfl ?_
                        refine q_iload rfl rfl rfl ?_
                        refine q_lald rfl rfl (by decide) rfl (by decide) (q_tnl (z := 1074791425) rfl ?_)
                        refine q_iload_n rfl rfl rfl ?_
                        refine q_nS2 rfl rfl (Or.inr rfl) rfl rfl ⟨rfl, rfl⟩ rfl ?_
                        change PQ _ _ _ mm_X11_says 0 [.long 1074791425, pm_un, .int 39] [] _ _ 0 0 _
                        refine q_lload_n rfl rfl rfl ?_
                        refine q_iload_n rfl rfl rfl ?_
                        refine q_lushr rfl rfl (q_tnl (z := 0) rfl ?_)
                        refine q_lconst rfl rfl ?_
                        refine q_land rfl rfl (q_tnl (z := 0) rfl ?_)
                        refine q_lconst rfl rfl ?_
                        refine q_lcmp rfl rfl (q_tn (z := 0) rfl ?_)
                        refine q_ifeq rfl rfl (fun c1341 => ?_) (fun c1341 => absurd (by decide) c1341)
                        refine q_iconst rfl rfl ?_
                        refine q_iret rfl rfl rfl ?_
                        refine ⟨_, rfl, ?_⟩
                        refine q_ifeq rfl rfl (fun c1342 => ?_) (fun c1342 => absurd (by decide) c1342)
                        refine q_icc4 (z := 1) rfl rfl rfl rfl rfl ?_
                        refine q_goto rfl ?_
                        refine q_iload rfl rfl rfl ?_
                        refine q_aload_n rfl rfl rfl ?_
                        refine q_alen rfl rfl (by decide) rfl rfl (q_tn (z := 5) rfl ?_)
                        as_aux_lemma =>
                          refine q_icge rfl rfl (fun c1343 => absurd c1343 (by decide)) (fun c1343 => ?_)
                          refine q_iload_n rfl rfl rfl ?_
                          refine q_iload rfl rfl rfl ?_
                          refine q_iushr rfl rfl (q_tn (z := 15) rfl ?_)
                          refine q_iconst rfl rfl ?_
                          refine q_iand rfl rfl (q_tn (z := 1) rfl ?_)
                          refine q_ifeq rfl rfl (fun c1344 => absurd c1344 (by decide)) (fun c1344 => ?_)
                          refine q_aload_n rfl rfl rfl ?_
                          refine q_iload rfl rfl rfl ?_
                          refine q_lald rfl rfl (by decide) rfl (by decide) (q_tnl (z := 1074791425) rfl ?_)
                          refine q_iload_n rfl rfl rfl ?_
                          refine q_nS2 rfl rfl (Or.inr rfl) rfl rfl ⟨rfl, rfl⟩ rfl ?_
                          change PQ _ _ _ mm_X11_says 0 [.long 1074791425, pm_un, .int 39] [] _ _ 0 0 _
                          refine q_lload_n rfl rfl rfl ?_
                          refine q_iload_n rfl rfl rfl ?_
                          refine q_lushr rfl rfl (q_tnl (z := 0) rfl ?_)
                          refine q_lconst rfl rfl ?_
                          refine q_land rfl rfl (q_tnl (z := 0) rfl ?_)
                          refine q_lconst rfl rfl ?_
                          refine q_lcmp rfl rfl (q_tn (z := 0) rfl ?_)
                          refine q_ifeq rfl rfl (fun c1345 => ?_) (fun c1345 => absurd (by decide) c1345)
                          refine q_iconst rfl rfl ?_
                          refine q_iret rfl rfl rfl ?_
                          refine ⟨_, rfl, ?_⟩
                          refine q_ifeq rfl rfl (fun c1346 => ?_) (fun c1346 => absurd (by decide) c1346)
                          refine q_icc4 (z := 2) rfl rfl rfl rfl rfl ?_
                          refine q_goto rfl ?_
                          refine q_iload rfl rfl rfl ?_
                          refine q_aload_n rfl rfl rfl ?_
                          refine q_alen rfl rfl (by decide) rfl rfl (q_tn (z := 5) rfl ?_)
                          refine q_icge rfl rfl (fun c1347 => absurd c1347 (by decide)) (fun c1347 => ?_)
                          refine q_iload_n rfl rfl rfl ?_
                          refine q_iload rfl rfl rfl ?_
                          refine q_iushr rfl rfl (q_tn (z := 7) rfl ?_)
                          refine q_iconst rfl rfl ?_
                          refine q_iand rfl rfl (q_tn (z := 1) rfl ?_)
                          refine q_ifeq rfl rfl (fun c1348 => absurd c1348 (by decide)) (fun c1348 => ?_)
                          refine q_aload_n rfl rfl rfl ?_
                          refine q_iload rfl rfl rfl ?_
                          refine q_lald rfl rfl (by decide) rfl (by decide) (q_tnl (z := 1074791425) rfl ?_)
                          refine q_iload_n rfl rfl rfl ?_
                          refine q_nS2 rfl rfl (Or.inr rfl) rfl rfl ⟨rfl, rfl⟩ rfl ?_
                          change PQ _ _ _ mm_X11_says 0 [.long 1074791425, pm_un, .int 39] [] _ _ 0 0 _
                          refine q_lload_n rfl rfl rfl ?_
                          refine q_iload_n rfl rfl rfl ?_
                          refine q_lushr rfl rfl (q_tnl (z := 0) rfl ?_)
                          refine q_lconst rfl rfl ?_
                          refine q_land rfl rfl (q_tnl (z := 0) rfl ?_)
                          refine q_lconst rfl rfl ?_
                          refine q_lcmp rfl rfl (q_tn (z := 0) rfl ?_)
                          refine q_ifeq rfl rfl (fun c1349 => ?_) (fun c1349 => absurd (by decide) c1349)
                          refine q_iconst rfl rfl ?_
                          refine q_iret rfl rfl rfl ?_
                          refine ⟨_, rfl, ?_⟩
                          refine q_ifeq rfl rfl (fun c1350 => ?_) (fun c1350 => absurd (by decide) c1350)
                          refine q_icc4 (z := 3) rfl rfl rfl rfl rfl ?_
                          refine q_goto rfl ?_
                          refine q_iload rfl rfl rfl ?_
                          refine q_aload_n rfl rfl rfl ?_
                          refine q_alen rfl rfl (by decide) rfl rfl (q_tn (z := 5) rfl ?_)
                          refine q_icge rfl rfl (fun c1351 => absurd c1351 (by decide)) (fun c1351 => ?_)
                          refine q_iload_n rfl rfl rfl ?_
                          refine q_iload rfl rfl rfl ?_
                          refine q_iushr rfl rfl (q_tn (z := 3) rfl ?_)
                          refine q_iconst rfl rfl ?_
                          refine q_iand rfl rfl (q_tn (z := 1) rfl ?_)
                          refine q_ifeq rfl rfl (fun c1352 => absurd c1352 (by decide)) (fun c1352 => ?_)
                          refine q_aload_n rfl rfl rfl ?_
                          refine q_iload rfl rfl rfl ?_
                          refine q_lald rfl rfl (by decide) rfl (by decide) (q_tnl (z := 1074791425) rfl ?_)
                          refine q_iload_n rfl rfl rfl ?_
                          refine q_nS2 rfl rfl (Or.inr rfl) rfl rfl ⟨rfl, rfl⟩ rfl ?_
                          change PQ _ _ _ mm_X11_says 0 [.long 1074791425, pm_un, .int 39] [] _ _ 0 0 _
                          refine q_lload_n rfl rfl rfl ?_
                          refine q_iload_n rfl rfl rfl ?_
                          refine q_lushr rfl rfl (q_tnl (z := 0) rfl ?_)
                          refine q_lconst rfl rfl ?_
                          refine q_land rfl rfl (q_tnl (z := 0) rfl ?_)
                          refine q_lconst rfl rfl ?_
                          refine q_lcmp rfl rfl (q_tn (z := 0) rfl ?_)
                          refine q_ifeq rfl rfl (fun c1353 => ?_) (fun c1353 => absurd (by decide) c1353)
                          refine q_iconst rfl rfl ?_
                          refine q_iret rfl rfl rfl ?_
                          refine ⟨_, rfl, ?_⟩
                          refine q_ifeq rfl rfl (fun c1354 => ?_) (fun c1354 => absurd (by decide) c1354)
                          refine q_icc4 (z := 4) rfl rfl rfl rfl rfl ?_
                          refine q_goto rfl ?_
                          refine q_iload rfl rfl rfl ?_
                          refine q_aload_n rfl rfl rfl ?_
                          refine q_alen rfl rfl (by decide) rfl rfl (q_tn (z := 5) rfl ?_)
                          refine q_icge rfl rfl (fun c1355 => absurd c1355 (by decide)) (fun c1355 => ?_)
                          refine q_iload_n rfl rfl rfl ?_
                          refine q_iload rfl rfl rfl ?_
                          refine q_iushr rfl rfl (q_tn (z := 1) rfl ?_)
                          refine q_iconst rfl rfl ?_
                          refine q_iand rfl rfl (q_tn (z := 1) rfl ?_)
                          refine q_ifeq rfl rfl (fun c1356 => absurd c1356 (by decide)) (fun c1356 => ?_)
                          refine q_aload_n rfl rfl rfl ?_
                          refine q_iload rfl rfl rfl ?_
                          refine q_lald rfl rfl (by decide) rfl (by decide) (q_tnl (z := 1074791425) rfl ?_)
                          refine q_iload_n rfl rfl rfl ?_
                          refine q_nS2 rfl rfl (Or.inr rfl) rfl rfl ⟨rfl, rfl⟩ rfl ?_
                          change PQ _ _ _ mm_X11_says 0 [.long 1074791425, pm_un, .int 39] [] _ _ 0 0 _
                          refine q_lload_n rfl rfl rfl ?_
                          refine q_iload_n rfl rfl rfl ?_
                          refine q_lushr rfl rfl (q_tnl (z := 0) rfl ?_)
                          refine q_lconst rfl rfl ?_
                          refine q_land rfl rfl (q_tnl (z := 0) rfl ?_)
                          refine q_lconst rfl rfl ?_
                          refine q_lcmp rfl rfl (q_tn (z := 0) rfl ?_)
                          refine q_ifeq rfl rfl (fun c1357 => ?_) (fun c1357 => absurd (by decide) c1357)
                          refine q_iconst rfl rfl ?_
                          refine q_iret rfl rfl rfl ?_
                          refine ⟨_, rfl, ?_⟩
                          refine q_ifeq rfl rfl (fun c1358 => ?_) (fun c1358 => absurd (by decide) c1358)
                          refine q_icc4 (z := 5) rfl rfl rfl rfl rfl ?_
                          refine q_goto rfl ?_
                          refine q_iload rfl rfl rfl ?_
                          refine q_aload_n rfl rfl rfl ?_
                          refine q_alen rfl rfl (by decide) rfl rfl (q_tn (z := 5) rfl ?_)
                          refine q_icge rfl rfl (fun c1359 => ?_) (fun c1359 => absurd (by decide) c1359)
                          refine q_iload_n rfl rfl rfl ?_
                          refine q_iload_n rfl rfl rfl ?_
                          refine q_nS1 rfl rfl (Or.inl rfl) rfl rfl ⟨rfl, rfl⟩ rfl ?_
                          change PQ _ _ _ mm_J6_bitCount_0f7a4 0 [.int 31] [] _ _ 0 0 _
                          refine q_iload_n rfl rfl rfl ?_
                          refine q_iload_n rfl rfl rfl ?_
                          refine q_iconst rfl rfl ?_
                          refine q_iushr rfl rfl (q_tn (z := 15) rfl ?_)
                          refine q_ldcw rfl rfl ?_
                          refine q_iand rfl rfl (q_tn (z := 5) rfl ?_)
                          refine q_isub rfl rfl (q_tn (z := 26) rfl ?_)
                          refine q_ist0n rfl rfl rfl ?_
                          refine q_iload_n rfl rfl rfl ?_
                          refine q_ldcw rfl rfl ?_
                          refine q_iand rfl rfl (q_tn (z := 18) rfl ?_)
                          refine q_iload_n rfl rfl rfl ?_
                          refine q_iconst rfl rfl ?_
                          refine q_iushr rfl rfl (q_tn (z := 6) rfl ?_)
                          refine q_ldcw rfl rfl ?_
                          refine q_iand rfl rfl (q_tn (z := 2) rfl ?_)
                          refine q_iadd rfl rfl (q_tn (z := 20) rfl ?_)
                          refine q_ist0n rfl rfl rfl ?_
                          refine q_iload_n rfl rfl rfl ?_
                          refine q_iload_n rfl rfl rfl ?_
                          refine q_iconst rfl rfl ?_
                          refine q_iushr rfl rfl (q_tn (z := 1) rfl ?_)
                          refine q_iadd rfl rfl (q_tn (z := 21) rfl ?_)
                          refine q_ldcw rfl rfl ?_
                          refine q_iand rfl rfl (q_tn (z := 5) rfl ?_)
                          refine q_ist0n rfl rfl rfl ?_
                          refine q_iload_n rfl rfl rfl ?_
                          refine q_iload_n rfl rfl rfl ?_
                          refine q_bipush rfl rfl ?_
                          refine q_iushr rfl rfl (q_tn (z := 0) rfl ?_)
                          refine q_iadd rfl rfl (q_tn (z := 5) rfl ?_)
                          refine q_ist0n rfl rfl rfl ?_
                          refine q_iload_n rfl rfl rfl ?_
                          refine q_iload_n rfl rfl rfl ?_
                          refine q_bipush rfl rfl ?_
                          refine q_iushr rfl rfl (q_tn (z := 0) rfl ?_)
                          refine q_iadd rfl rfl (q_tn (z := 5) rfl ?_)
                          refine q_ist0n rfl rfl rfl ?_
                          refine q_iload_n rfl rfl rfl ?_
                          refine q_bipush rfl rfl ?_
                          refine q_iand rfl rfl (q_tn (z := 5) rfl ?_)
                          refine q_iret rfl rfl trivial ?_
                          refine ⟨_, rfl, ?_⟩
                          refine q_iload_n rfl rfl rfl ?_
                          refine q_isub rfl rfl (q_tn (z := 5) rfl ?_)
                          refine q_mmax (z := 5) rfl om_gp rfl rfl rfl ?_
                          refine q_iret rfl rfl trivial ?_
                          refine ⟨_, rfl, ?_⟩
                          refine q_ist6 rfl rfl rfl rfl ?_
                          refine q_aload_n rfl rfl rfl ?_
                          refine q_getf rfl rfl (by decide) (FW_42 S hW) rfl ?_
                          refine q_iload rfl rfl rfl ?_
                          refine q_nS2 rfl rfl (Or.inr rfl) rfl rfl ⟨rfl, rfl⟩ rfl ?_
                          change PQ _ _ _ mm_X11_says 0 [.long 0, pm_un, .int 39] [] _ _ 0 0 _
                          refine q_lload_n rfl rfl rfl ?_
                          refine q_iload_n rfl rfl rfl ?_
                          refine q_lushr rfl rfl (q_tnl (z := 0) rfl ?_)
                          refine q_lconst rfl rfl ?_
                          refine q_land rfl rfl (q_tnl (z := 0) rfl ?_)
                          refine q_lconst rfl rfl ?_
                          refine q_lcmp rfl rfl (q_tn (z := 0) rfl ?_)
                          refine q_ifeq rfl rfl (fun c1360 => ?_) (fun c1360 => absurd (by decide) c1360)
                          refine q_iconst rfl rfl ?_
                          refine q_iret rfl rfl rfl ?_
                          refine ⟨_, rfl, ?_⟩
                          refine q_ifne rfl rfl (fun c1361 => ?_) (fun c1361 => absurd (by decide) c1361)
                          refine q_iload rfl rfl rfl ?_
                          refine q_iload rfl rfl rfl ?_
                          refine q_icge rfl rfl (fun c1362 => ?_) (fun c1362 => absurd (by decide) c1362)
                          refine q_icc5 (z := 40) rfl rfl rfl rfl rfl ?_
                          refine q_goto rfl ?_
                          refine q_iload rfl rfl rfl ?_
                          refine q_bipush rfl rfl ?_
                          refine q_icge rfl rfl (fun c1363 => ?_) (fun c1363 => absurd (by decide) c1363)
                          refine q_iload_n rfl rfl rfl ?_
                          refine q_iret rfl rfl trivial ?_
                          refine ⟨_, rfl, ?_⟩
                          refine q_iret rfl rfl trivial ?_
                          exact hK _ ⟨rfl, rfl, rfl, rfl, rfl, rfl, rfl, rfl, rfl, rfl, rfl, rfl, rfl, rfl, rfl, rfl, rfl, rfl, rfl, rfl, rfl, rfl, rfl, rfl, rfl, rfl, rfl, rfl, rfl, rfl, rfl, rfl, rfl, rfl, rfl, rfl⟩
end TR
