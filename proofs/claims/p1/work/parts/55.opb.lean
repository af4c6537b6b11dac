section TR
variable {EX : pm_M → pm_C → (pm_C → Prop) → Prop} {xs : Nat → Int32} {K : q_K}
set_option maxHeartbeats 40000000 in
set_option maxRecDepth 20000 in
theorem t_op11 {S : Nat → pm_E} (hW : FW S) {x1 x2 x3 x4 x5 : Int32} (hx1 : xs 1 = x1) (hx2 : xs 2 = x2) (hx3 : xs 3 = x3) (hx4 : xs 4 = x4) (hx5 : xs 5 = x5) (hK : ∀ S n, K (some (.int 1)) S n) : PQ (j_SL 6) (j_SV xs) EX mm_L_law 531 [.float 5, .ref 0, .ref 46, .ref 81, .int 0, pm_un, pm_un, pm_un] [] S 82 82 190091 K := by
  refine q_aload_n rfl rfl rfl ?_
  refine q_aload_nF rfl rfl rfl ?_
  refine q_iload rfl rfl rfl ?_
  refine q_iconst rfl rfl ?_
  refine q_iadd rfl rfl (q_tn (z := 1) rfl ?_)
  refine q_ialdX (x := x1) rfl rfl rfl hx1 ?_
  refine q_nV1 rfl rfl (Or.inl rfl) rfl rfl rfl (by decide) (FW_0 S hW) ⟨rfl, rfl⟩ rfl ?_
  change PQ _ _ _ mm_X11_way 0 [.ref 0, .int x1, pm_un] [] _ _ 0 0 _
  refine q_aload_n rfl rfl rfl ?_
  refine q_iload_n rfl rfl rfl ?_
  refine q_nV1 rfl rfl (Or.inl rfl) rfl rfl rfl (by decide) (FW_0 S hW) ⟨rfl, rfl⟩ rfl ?_
  change PQ _ _ _ mm_X11_refusalOf 0 [.ref 0, .int x1, pm_un] [] _ _ 0 0 _
  refine q_iload_n rfl rfl rfl ?_
  refine q_ifge rfl rfl (fun c1 => ?_) (fun c1 => ?_)
  · refine q_aload_n rfl rfl rfl ?_
    refine q_iconst rfl rfl ?_
    refine q_nV1 rfl rfl (Or.inl rfl) rfl rfl rfl (by decide) (FW_0 S hW) ⟨rfl, rfl⟩ rfl ?_
    change PQ _ _ _ mm_X11_sizeOf 0 [.ref 0, .int 0, pm_un] [] _ _ 0 0 _
    refine q_aload_n rfl rfl rfl ?_
    refine q_getf rfl rfl (by decide) (FW_0 S hW) rfl ?_
    refine q_iload_n rfl rfl rfl ?_
    refine q_iald rfl rfl (by decide) (FW_44 S hW) (by decide) (q_tn (z := 0) rfl ?_)
    refine q_ifne rfl rfl (fun c2 => ?_) (fun c2 => absurd (by decide) c2)
    refine q_iload_n rfl rfl rfl ?_
    refine q_ifne rfl rfl (fun c3 => ?_) (fun c3 => absurd (by decide) c3)
    refine q_aload_n rfl rfl rfl ?_
    refine q_getf rfl rfl (by decide) (FW_0 S hW) rfl ?_
    refine q_goto rfl ?_
    refine q_ast2n rfl rfl rfl rfl ?_
    refine q_aload_n rfl rfl rfl ?_
    refine q_getf rfl rfl (by decide) (FW_0 S hW) rfl ?_
    refine q_iload_n rfl rfl rfl ?_
    refine q_putf rfl rfl (by decide) (FW_7 S hW) (by decide) rfl trivial ?_
    refine q_aload_n rfl rfl rfl ?_
    refine q_aload_n rfl rfl rfl ?_
    refine q_getf rfl rfl (by decide) (FW_0 S hW) rfl ?_
    refine q_iconst rfl rfl ?_
    refine q_nV2v rfl rfl (Or.inl rfl) rfl rfl rfl (by decide) (FW_8 S hW) ⟨rfl, rfl⟩ rfl ?_
    change PQ _ _ _ mm_X7_explore 0 [.ref 8, .ref 7, .int 0, pm_un] [] _ _ 0 0 _
    refine q_aload_n rfl rfl rfl ?_
    refine q_nV0v rfl rfl (Or.inl rfl) rfl rfl rfl (by decide) (FW_8 S hW) ⟨rfl, rfl⟩ rfl ?_
    change PQ _ _ _ mm_X7_clear 0 [.ref 8, pm_un] [] _ _ 0 0 _
    refine q_iconst rfl rfl ?_
    refine q_ist1n rfl rfl rfl rfl ?_
    refine q_iload_n rfl rfl rfl ?_
    refine q_aload_n rfl rfl rfl ?_
    refine q_getf rfl rfl (by decide) (FW_8 S hW) rfl ?_
    refine q_icge rfl rfl (fun c4 => ?_) (fun c4 => absurd (by decide) c4)
    refine q_aload_n rfl rfl rfl ?_
    refine q_iconst rfl rfl ?_
    refine q_putf rfl rfl (by decide) (FW_8 S hW) (by decide) rfl trivial ?_
    refine q_aload_n rfl rfl rfl ?_
    refine q_iconst rfl rfl ?_
    refine q_putf rfl rfl (by decide) rfl (by decide) rfl rfl ?_
    refine q_aload_n rfl rfl rfl ?_
    refine q_iconst rfl rfl ?_
    refine q_putf rfl rfl (by decide) rfl (by decide) rfl rfl ?_
    refine q_aload_n rfl rfl rfl ?_
    refine q_lconst rfl rfl ?_
    refine q_putf rfl rfl (by decide) rfl (by decide) rfl trivial ?_
    refine q_ret rfl rfl ?_
    refine ⟨rfl, ?_⟩
    refine q_aload_n rfl rfl rfl ?_
    refine q_aload_n rfl rfl rfl ?_
    refine q_nV0 rfl rfl (Or.inl rfl) rfl rfl rfl (by decide) rfl ⟨rfl, rfl⟩ rfl ?_
    change PQ _ _ _ mm_X6_first 0 [.ref 7, pm_un, pm_un, pm_un] [] _ _ 0 0 _
    refine q_lconst rfl rfl ?_
    refine q_lst1n rfl rfl rfl rfl ?_
    refine q_iconst rfl rfl ?_
    refine q_ist3n rfl rfl rfl rfl ?_
    refine q_iload_n rfl rfl rfl ?_
    refine q_iconst rfl rfl ?_
    refine q_icge rfl rfl (fun c5 => absurd c5 (by decide)) (fun c5 => ?_)
    refine q_lload_n rfl rfl rfl ?_
    refine q_iload_n rfl rfl rfl ?_
    refine q_aload_n rfl rfl rfl ?_
    refine q_getf rfl rfl (by decide) rfl rfl ?_
    refine q_getf rfl rfl (by decide) (FW_1 S hW) rfl ?_
    refine q_iload_n rfl rfl rfl ?_
    refine q_iald rfl rfl (by decide) (FW_2 S hW) (by decide) (q_tn (z := 0) rfl ?_)
    refine q_nS3 rfl rfl (Or.inl rfl) rfl rfl ⟨rfl, rfl⟩ rfl ?_
    change PQ _ _ _ mm_X0_withPlace 0 [.long 0, pm_un, .int 0, .int 0, pm_un] [] _ _ 0 0 _
    refine q_bipush rfl rfl ?_
    refine q_iconst rfl rfl ?_
    refine q_iload_n rfl rfl rfl ?_
    refine q_imul rfl rfl (q_tn (z := 0) rfl ?_)
    refine q_iadd rfl rfl (q_tn (z := 36) rfl ?_)
    refine q_ist4 rfl rfl rfl rfl ?_
    refine q_lload_n rfl rfl rfl ?_
    refine q_ldc2 rfl rfl ?_
    refine q_iload rfl rfl rfl ?_
    refine q_lshl rfl rfl (q_tnl (z := 1030792151040) rfl ?_)
    refine q_ldc2 rfl rfl ?_
    refine q_lxor rfl rfl (q_tnl (z := (-1030792151041)) rfl ?_)
    refine q_land rfl rfl (q_tnl (z := 0) rfl ?_)
    refine q_iload_n rfl rfl rfl ?_
    refine q_i2l rfl rfl (q_tnl (z := 0) rfl ?_)
    refine q_iload rfl rfl rfl ?_
    refine q_lshl rfl rfl (q_tnl (z := 0) rfl ?_)
    refine q_lor rfl rfl (q_tnl (z := 0) rfl ?_)
    refine q_lret rfl rfl trivial ?_
    refine ⟨_, rfl, ?_⟩
    refine q_lst1n rfl rfl rfl rfl ?_
    refine q_icc3 (z := 1) rfl rfl rfl rfl rfl ?_
    refine q_goto rfl ?_
    refine q_iload_n rfl rfl rfl ?_
    refine q_iconst rfl rfl ?_
    refine q_icge rfl rfl (fun c6 => absurd c6 (by decide)) (fun c6 => ?_)
    refine q_lload_n rfl rfl rfl ?_
    refine q_iload_n rfl rfl rfl ?_
    refine q_aload_n rfl rfl rfl ?_
    refine q_getf rfl rfl (by decide) rfl rfl ?_
    refine q_getf rfl rfl (by decide) (FW_1 S hW) rfl ?_
    refine q_iload_n rfl rfl rfl ?_
    refine q_iald rfl rfl (by decide) (FW_2 S hW) (by decide) (q_tn (z := 0) rfl ?_)
    refine q_nS3 rfl rfl (Or.inl rfl) rfl rfl ⟨rfl, rfl⟩ rfl ?_
    change PQ _ _ _ mm_X0_withPlace 0 [.long 0, pm_un, .int 1, .int 0, pm_un] [] _ _ 0 0 _
    refine q_bipush rfl rfl ?_
    refine q_iconst rfl rfl ?_
    refine q_iload_n rfl rfl rfl ?_
    refine q_imul rfl rfl (q_tn (z := 4) rfl ?_)
    refine q_iadd rfl rfl (q_tn (z := 40) rfl ?_)
    refine q_ist4 rfl rfl rfl rfl ?_
    refine q_lload_n rfl rfl rfl ?_
    refine q_ldc2 rfl rfl ?_
    refine q_iload rfl rfl rfl ?_
    refine q_lshl rfl rfl (q_tnl (z := 16492674416640) rfl ?_)
    refine q_ldc2 rfl rfl ?_
    refine q_lxor rfl rfl (q_tnl (z := (-16492674416641)) rfl ?_)
    refine q_land rfl rfl (q_tnl (z := 0) rfl ?_)
    refine q_iload_n rfl rfl rfl ?_
    refine q_i2l rfl rfl (q_tnl (z := 0) rfl ?_)
    refine q_iload rfl rfl rfl ?_
    refine q_lshl rfl rfl (q_tnl (z := 0) rfl ?_)
    refine q_lor rfl rfl (q_tnl (z := 0) rfl ?_)
    refine q_lret rfl rfl trivial ?_
    refine ⟨_, rfl, ?_⟩
    refine q_lst1n rfl rfl rfl rfl ?_
    refine q_icc3 (z := 2) rfl rfl rfl rfl rfl ?_
    refine q_goto rfl ?_
    refine q_iload_n rfl rfl rfl ?_
    refine q_iconst rfl rfl ?_
    refine q_icge rfl rfl (fun c7 => absurd c7 (by decide)) (fun c7 => ?_)
    refine q_lload_n rfl rfl rfl ?_
    refine q_iload_n rfl rfl rfl ?_
    refine q_aload_n rfl rfl rfl ?_
    refine q_getf rfl rfl (by decide) rfl rfl ?_
    refine q_getf rfl rfl (by decide) (FW_1 S hW) rfl ?_
    refine q_iload_n rfl rfl rfl ?_
    refine q_iald rfl rfl (by decide) (FW_2 S hW) (by decide) (q_tn (z := 0) rfl ?_)
    refine q_nS3 rfl rfl (Or.inl rfl) rfl rfl ⟨rfl, rfl⟩ rfl ?_
    change PQ _ _ _ mm_X0_withPlace 0 [.long 0, pm_un, .int 2, .int 0, pm_un] [] _ _ 0 0 _
    refine q_bipush rfl rfl ?_
    refine q_iconst rfl rfl ?_
    refine q_iload_n rfl rfl rfl ?_
    refine q_imul rfl rfl (q_tn (z := 8) rfl ?_)
    refine q_iadd rfl rfl (q_tn (z := 44) rfl ?_)
    refine q_ist4 rfl rfl rfl rfl ?_
    refine q_lload_n rfl rfl rfl ?_
    refine q_ldc2 rfl rfl ?_
    refine q_iload rfl rfl rfl ?_
    refine q_lshl rfl rfl (q_tnl (z := 263882790666240) rfl ?_)
    refine q_ldc2 rfl rfl ?_
    refine q_lxor rfl rfl (q_tnl (z := (-263882790666241)) rfl ?_)
    refine q_land rfl rfl (q_tnl (z := 0) rfl ?_)
    refine q_iload_n rfl rfl rfl ?_
    refine q_i2l rfl rfl (q_tnl (z := 0) rfl ?_)
    refine q_iload rfl rfl rfl ?_
    refine q_lshl rfl rfl (q_tnl (z := 0) rfl ?_)
    refine q_lor rfl rfl (q_tnl (z := 0) rfl ?_)
    refine q_lret rfl rfl trivial ?_
    refine ⟨_, rfl, ?_⟩
    refine q_lst1n rfl rfl rfl rfl ?_
    refine q_icc3 (z := 3) rfl rfl rfl rfl rfl ?_
    refine q_goto rfl ?_
    refine q_iload_n rfl rfl rfl ?_
    refine q_iconst rfl rfl ?_
    refine q_icge rfl rfl (fun c8 => absurd c8 (by decide)) (fun c8 => ?_)
    refine q_lload_n rfl rfl rfl ?_
    refine q_iload_n rfl rfl rfl ?_
    refine q_aload_n rfl rfl rfl ?_
    refine q_getf rfl rfl (by decide) rfl rfl ?_
    refine q_getf rfl rfl (by decide) (FW_1 S hW) rfl ?_
    refine q_iload_n rfl rfl rfl ?_
    refine q_iald rfl rfl (by decide) (FW_2 S hW) (by decide) (q_tn (z := 0) rfl ?_)
    refine q_nS3 rfl rfl (Or.inl rfl) rfl rfl ⟨rfl, rfl⟩ rfl ?_
    change PQ _ _ _ mm_X0_withPlace 0 [.long 0, pm_un, .int 3, .int 0, pm_un] [] _ _ 0 0 _
    refine q_bipush rfl rfl ?_
    refine q_iconst rfl rfl ?_
    refine q_iload_n rfl rfl rfl ?_
    refine q_imul rfl rfl (q_tn (z := 12) rfl ?_)
    refine q_iadd rfl rfl (q_tn (z := 48) rfl ?_)
    refine q_ist4 rfl rfl rfl rfl ?_
    refine q_lload_n rfl rfl rfl ?_
    refine q_ldc2 rfl rfl ?_
    refine q_iload rfl rfl rfl ?_
    refine q_lshl rfl rfl (q_tnl (z := 4222124650659840) rfl ?_)
    refine q_ldc2 rfl rfl ?_
    refine q_lxor rfl rfl (q_tnl (z := (-4222124650659841)) rfl ?_)
    refine q_land rfl rfl (q_tnl (z := 0) rfl ?_)
    refine q_iload_n rfl rfl rfl ?_
    refine q_i2l rfl rfl (q_tnl (z := 0) rfl ?_)
    refine q_iload rfl rfl rfl ?_
    refine q_lshl rfl rfl (q_tnl (z := 0) rfl ?_)
    refine q_lor rfl rfl (q_tnl (z := 0) rfl ?_)
    refine q_lret rfl rfl trivial ?_
    refine ⟨_, rfl, ?_⟩
    refine q_lst1n rfl rfl rfl rfl ?_
    refine q_icc3 (z := 4) rfl rfl rfl rfl rfl ?_
    refine q_goto rfl ?_
    refine q_iload_n rfl rfl rfl ?_
    refine q_iconst rfl rfl ?_
    refine q_icge rfl rfl (fun c9 => ?_) (fun c9 => absurd (by decide) c9)
    refine q_lload_n rfl rfl rfl ?_
    refine q_lret rfl rfl trivial ?_
    refine ⟨_, rfl, ?_⟩
    refine q_iconst rfl rfl ?_
    refine q_iconst rfl rfl ?_
    refine q_nV3 rfl rfl (Or.inl rfl) rfl rfl rfl (by decide) rfl ⟨rfl, rfl⟩ rfl ?_
    change PQ _ _ _ mm_X7_numberOf 0 [.ref 8, .long 0, pm_un, .int (-1), .int (-1), pm_un, pm_un, pm_un] [] _ _ 0 0 _
    refine q_lload_n rfl rfl rfl ?_
    refine q_ldc2 rfl rfl ?_
    refine q_lmul rfl rfl (q_tnl (z := 0) rfl ?_)
    refine q_bipush rfl rfl ?_
    refine q_lushr rfl rfl (q_tnl (z := 0) rfl ?_)
    refine q_l2i rfl rfl (q_tn (z := 0) rfl ?_)
    refine q_sipush rfl rfl ?_
    refine q_iand rfl rfl (q_tn (z := 0) rfl ?_)
    refine q_ist5 rfl rfl rfl rfl ?_
    refine q_iconst rfl rfl ?_
    refine q_ist6 rfl rfl rfl rfl ?_
    refine q_iload rfl rfl rfl ?_
    refine q_sipush rfl rfl ?_
    refine q_icge rfl rfl (fun c10 => absurd c10 (by decide)) (fun c10 => ?_)
    refine q_aload_n rfl rfl rfl ?_
    refine q_getf rfl rfl (by decide) rfl rfl ?_
    refine q_iload rfl rfl rfl ?_
    refine q_iald rfl rfl (by decide) (FW_14 S hW) (by decide) (q_tn (z := 0) rfl ?_)
    refine q_iconst rfl rfl ?_
    refine q_isub rfl rfl (q_tn (z := (-1)) rfl ?_)
    refine q_ist7 rfl rfl rfl rfl ?_
    refine q_iload rfl rfl rfl ?_
    refine q_ifge rfl rfl (fun c11 => absurd c11 (by decide)) (fun c11 => ?_)
    refine q_aload_n rfl rfl rfl ?_
    refine q_lload_n rfl rfl rfl ?_
    refine q_iload rfl rfl rfl ?_
    refine q_iload_n rfl rfl rfl ?_
    refine q_iload rfl rfl rfl ?_
    refine q_nV4 rfl rfl (Or.inl rfl) rfl rfl rfl (by decide) rfl ⟨rfl, rfl⟩ rfl ?_
    change PQ _ _ _ mm_X7_newNumber 0 [.ref 8, .long 0, pm_un, .int 0, .int (-1), .int (-1), pm_un] [] _ _ 0 0 _
    refine q_aload_n rfl rfl rfl ?_
    refine q_getf rfl rfl (by decide) rfl rfl ?_
    refine q_sipush rfl rfl ?_
    refine q_iclt rfl rfl (fun c12 => ?_) (fun c12 => absurd (by decide) c12)
    refine q_aload_n rfl rfl rfl ?_
    refine q_dupr rfl rfl ?_
    refine q_getf rfl rfl (by decide) rfl rfl ?_
    refine q_dupx1 rfl rfl ?_
    refine q_iconst rfl rfl ?_
    refine q_iadd rfl rfl (q_tn (z := 1) rfl ?_)
    refine q_putf rfl rfl (by decide) rfl (by decide) rfl trivial ?_
    refine q_ist6 rfl rfl rfl rfl ?_
    refine q_aload_n rfl rfl rfl ?_
    refine q_getf rfl rfl (by decide) rfl rfl ?_
    refine q_iload rfl rfl rfl ?_
    refine q_lload_n rfl rfl rfl ?_
    refine q_last rfl rfl (by decide) (FW_9 S hW) (by decide) ?_
    refine q_aload_n rfl rfl rfl ?_
    refine q_getf rfl rfl (by decide) rfl rfl ?_
    refine q_iload rfl rfl rfl ?_
    refine q_iload rfl rfl rfl ?_
    refine q_iast rfl rfl (by decide) (FW_10 S hW) (by decide) ?_
    refine q_aload_n rfl rfl rfl ?_
    refine q_getf rfl rfl (by decide) rfl rfl ?_
    refine q_iload rfl rfl rfl ?_
    refine q_iload rfl rfl rfl ?_
    refine q_iast rfl rfl (by decide) (FW_11 S hW) (by decide) ?_
    refine q_aload_n rfl rfl rfl ?_
    refine q_getf rfl rfl (by decide) rfl rfl ?_
    refine q_iload rfl rfl rfl ?_
    refine q_iload_n rfl rfl rfl ?_
    refine q_iast rfl rfl (by decide) (FW_15 S hW) (by decide) ?_
    refine q_aload_n rfl rfl rfl ?_
    refine q_getf rfl rfl (by decide) rfl rfl ?_
    refine q_iload_n rfl rfl rfl ?_
    refine q_iload rfl rfl rfl ?_
    refine q_iconst rfl rfl ?_
    refine q_iadd rfl rfl (q_tn (z := 1) rfl ?_)
    refine q_iast rfl rfl (by decide) (FW_14 S hW) (by decide) ?_
    refine q_iload rfl rfl rfl ?_
    refine q_iret rfl rfl trivial ?_
    refine ⟨_, rfl, ?_⟩
    refine q_iret rfl rfl trivial ?_
    refine ⟨_, rfl, ?_⟩
    refine q_pop rfl rfl ?_
    refine q_iconst rfl rfl ?_
    refine q_ist3n rfl rfl rfl rfl ?_
    refine q_iload_n rfl rfl rfl ?_
    refine q_sipush rfl rfl ?_
    refine q_icge rfl rfl (fun c13 => absurd c13 (by decide)) (fun c13 => ?_)
    refine q_iload_n rfl rfl rfl ?_
    refine q_aload_n rfl rfl rfl ?_
    refine q_getf rfl rfl (by decide) rfl rfl ?_
    refine q_icge rfl rfl (fun c14 => absurd c14 (by decide)) (fun c14 => ?_)
    refine q_aload_n rfl rfl rfl ?_
    refine q_aload_n rfl rfl rfl ?_
    refine q_iload_n rfl rfl rfl ?_
    refine q_nV2v rfl rfl (Or.inl rfl) rfl rfl rfl (by decide) rfl ⟨rfl, rfl⟩ rfl ?_
    change PQ _ _ _ mm_X7_lookAt 0 [.ref 8, .ref 7, .int 0, pm_un, pm_un, pm_un, pm_un, pm_un, pm_un, pm_un] [] _ _ 0 0 _
    refine q_aload_n rfl rfl rfl ?_
    refine q_getf rfl rfl (by decide) rfl rfl ?_
    refine q_iload_n rfl rfl rfl ?_
    refine q_lald rfl rfl (by decide) rfl (by decide) (q_tnl (z := 0) rfl ?_)
    refine q_lst3n rfl rfl rfl rfl ?_
    refine q_aload_n rfl rfl rfl ?_
    refine q_aload_n rfl rfl rfl ?_
    refine q_lload_n rfl rfl rfl ?_
    refine q_nV1 rfl rfl (Or.inl rfl) rfl rfl rfl (by decide) rfl ⟨rfl, rfl⟩ rfl ?_
    change PQ _ _ _ mm_X6_ableHands 0 [.ref 7, .long 0, pm_un, pm_un, pm_un, pm_un] [] _ _ 0 0 _
    refine q_aload_n rfl rfl rfl ?_
    refine q_lload_n rfl rfl rfl ?_
    refine q_nV1 rfl rfl (Or.inl rfl) rfl rfl rfl (by decide) rfl ⟨rfl, rfl⟩ rfl ?_
    change PQ _ _ _ mm_X6_allMeet 0 [.ref 7, .long 0, pm_un, pm_un, pm_un] [] _ _ 0 0 _
    refine q_iconst rfl rfl ?_
    refine q_ist3n rfl rfl rfl rfl ?_
    refine q_iload_n rfl rfl rfl ?_
    refine q_aload_n rfl rfl rfl ?_
    refine q_getf rfl rfl (by decide) rfl rfl ?_
    refine q_getf rfl rfl (by decide) (FW_1 S hW) rfl ?_
    refine q_icge rfl rfl (fun c15 => absurd c15 (by decide)) (fun c15 => ?_)
    refine q_aload_n rfl rfl rfl ?_
    refine q_getf rfl rfl (by decide) rfl rfl ?_
    refine q_iload_n rfl rfl rfl ?_
    refine q_lload_n rfl rfl rfl ?_
    refine q_iload_n rfl rfl rfl ?_
    refine q_nS2 rfl rfl (Or.inl rfl) rfl rfl ⟨rfl, rfl⟩ rfl ?_
    change PQ _ _ _ mm_X0_position 0 [.long 0, pm_un, .int 0] [] _ _ 0 0 _
    refine q_lload_n rfl rfl rfl ?_
    refine q_bipush rfl rfl ?_
    refine q_iload_n rfl rfl rfl ?_
    refine q_imul rfl rfl (q_tn (z := 0) rfl ?_)
    refine q_lushr rfl rfl (q_tnl (z := 0) rfl ?_)
    refine q_l2i rfl rfl (q_tn (z := 0) rfl ?_)
    refine q_bipush rfl rfl ?_
    refine q_iand rfl rfl (q_tn (z := 0) rfl ?_)
    refine q_iret rfl rfl trivial ?_
    refine ⟨_, rfl, ?_⟩
    refine q_nV2 rfl rfl (Or.inl rfl) rfl rfl rfl (by decide) (FW_1 S hW) ⟨rfl, rfl⟩ rfl ?_
    change PQ _ _ _ mm_X8_cellOf 0 [.ref 1, .int 0, .int 0, pm_un] [] _ _ 0 0 _
    refine q_iload_n rfl rfl rfl ?_
    refine q_iflt rfl rfl (fun c16 => absurd c16 (by decide)) (fun c16 => ?_)
    refine q_iload_n rfl rfl rfl ?_
    refine q_aload_n rfl rfl rfl ?_
    refine q_getf rfl rfl (by decide) (FW_1 S hW) rfl ?_
    refine q_icge rfl rfl (fun c17 => absurd c17 (by decide)) (fun c17 => ?_)
    refine q_iload_n rfl rfl rfl ?_
    refine q_iflt rfl rfl (fun c18 => absurd c18 (by decide)) (fun c18 => ?_)
    refine q_iload_n rfl rfl rfl ?_
    refine q_aload_n rfl rfl rfl ?_
    refine q_getf rfl rfl (by decide) (FW_1 S hW) rfl ?_
    refine q_iload_n rfl rfl rfl ?_
    refine q_iald rfl rfl (by decide) (FW_3 S hW) (by decide) (q_tn (z := 0) rfl ?_)
    refine q_icge rfl rfl (fun c19 => ?_) (fun c19 => absurd (by decide) c19)
    refine q_iconst rfl rfl ?_
    refine q_ist3n rfl rfl rfl rfl ?_
    refine q_iload_n rfl rfl rfl ?_
    refine q_ifeq rfl rfl (fun c20 => ?_) (fun c20 => absurd (by decide) c20)
    refine q_iconst rfl rfl ?_
    refine q_iret rfl rfl trivial ?_
    refine ⟨_, rfl, ?_⟩
    refine q_ist4 rfl rfl rfl rfl ?_
    refine q_iload rfl rfl rfl ?_
    refine q_iflt rfl rfl (fun c21 => ?_) (fun c21 => absurd (by decide) c21)
    refine q_icc3 (z := 1) rfl rfl rfl rfl rfl ?_
    refine q_goto rfl ?_
    refine q_iload_n rfl rfl rfl ?_
    refine q_aload_n rfl rfl rfl ?_
    refine q_getf rfl rfl (by decide) rfl rfl ?_
    refine q_getf rfl rfl (by decide) (FW_1 S hW) rfl ?_
    refine q_icge rfl rfl (fun c22 => ?_) (fun c22 => absurd (by decide) c22)
    refine q_iconst rfl rfl ?_
    refine q_iret rfl rfl rfl ?_
    refine ⟨_, rfl, ?_⟩
    refine q_ist3n rfl rfl rfl rfl ?_
    refine q_iconst rfl rfl ?_
    refine q_ist4 rfl rfl rfl rfl ?_
    refine q_iconst rfl rfl ?_
    refine q_ist5 rfl rfl rfl rfl ?_
    refine q_iload rfl rfl rfl ?_
    refine q_aload_n rfl rfl rfl ?_
    refine q_getf rfl rfl (by decide) rfl rfl ?_
    refine q_getf rfl rfl (by decide) (FW_1 S hW) rfl ?_
    refine q_icge rfl rfl (fun c23 => absurd c23 (by decide)) (fun c23 => ?_)
    refine q_aload_n rfl rfl rfl ?_
    refine q_lload_n rfl rfl rfl ?_
    refine q_iload rfl rfl rfl ?_
    refine q_iload_n rfl rfl rfl ?_
    refine q_nV3 rfl rfl (Or.inl rfl) rfl rfl rfl (by decide) rfl ⟨rfl, rfl⟩ rfl ?_
    change PQ _ _ _ mm_X6_isAble 0 [.ref 7, .long 0, pm_un, .int 0, .int 1, pm_un, pm_un, pm_un] [] _ _ 0 0 _
    refine q_aload_n rfl rfl rfl ?_
    refine q_getf rfl rfl (by decide) rfl rfl ?_
    refine q_iload_n rfl rfl rfl ?_
    refine q_lload_n rfl rfl rfl ?_
    refine q_iload_n rfl rfl rfl ?_
    refine q_nS2 rfl rfl (Or.inl rfl) rfl rfl ⟨rfl, rfl⟩ rfl ?_
    change PQ _ _ _ mm_X0_position 0 [.long 0, pm_un, .int 0] [] _ _ 0 0 _
    refine q_lload_n rfl rfl rfl ?_
    refine q_bipush rfl rfl ?_
    refine q_iload_n rfl rfl rfl ?_
    refine q_imul rfl rfl (q_tn (z := 0) rfl ?_)
    refine q_lushr rfl rfl (q_tnl (z := 0) rfl ?_)
    refine q_l2i rfl rfl (q_tn (z := 0) rfl ?_)
    refine q_bipush rfl rfl ?_
    refine q_iand rfl rfl (q_tn (z := 0) rfl ?_)
    refine q_iret rfl rfl trivial ?_
    refine ⟨_, rfl, ?_⟩
    refine q_nV2 rfl rfl (Or.inl rfl) rfl rfl rfl (by decide) (FW_1 S hW) ⟨rfl, rfl⟩ rfl ?_
    change PQ _ _ _ mm_X8_cellOf 0 [.ref 1, .int 0, .int 0, pm_un] [] _ _ 0 0 _
    refine q_iload_n rfl rfl rfl ?_
    refine q_iflt rfl rfl (fun c24 => absurd c24 (by decide)) (fun c24 => ?_)
    refine q_iload_n rfl rfl rfl ?_
    refine q_aload_n rfl rfl rfl ?_
    refine q_getf rfl rfl (by decide) (FW_1 S hW) rfl ?_
    refine q_icge rfl rfl (fun c25 => absurd c25 (by decide)) (fun c25 => ?_)
    refine q_iload_n rfl rfl rfl ?_
    refine q_iflt rfl rfl (fun c26 => absurd c26 (by decide)) (fun c26 => ?_)
    refine q_iload_n rfl rfl rfl ?_
    refine q_aload_n rfl rfl rfl ?_
    refine q_getf rfl rfl (by decide) (FW_1 S hW) rfl ?_
    refine q_iload_n rfl rfl rfl ?_
    refine q_iald rfl rfl (by decide) (FW_3 S hW) (by decide) (q_tn (z := 0) rfl ?_)
    refine q_icge rfl rfl (fun c27 => ?_) (fun c27 => absurd (by decide) c27)
    refine q_iconst rfl rfl ?_
    refine q_ist3n rfl rfl rfl rfl ?_
    refine q_iload_n rfl rfl rfl ?_
    refine q_ifeq rfl rfl (fun c28 => ?_) (fun c28 => absurd (by decide) c28)
    refine q_iconst rfl rfl ?_
    refine q_iret rfl rfl trivial ?_
    refine ⟨_, rfl, ?_⟩
    refine q_ist5 rfl rfl rfl rfl ?_
    refine q_iload rfl rfl rfl ?_
    refine q_ifge rfl rfl (fun c29 => absurd c29 (by decide)) (fun c29 => ?_)
    refine q_iconst rfl rfl ?_
    refine q_iret rfl rfl rfl ?_
    refine ⟨_, rfl, ?_⟩
    refine q_ifeq rfl rfl (fun c30 => ?_) (fun c30 => absurd (by decide) c30)
    refine q_icc5 (z := 1) rfl rfl rfl rfl rfl ?_
    refine q_goto rfl ?_
    refine q_iload rfl rfl rfl ?_
    refine q_aload_n rfl rfl rfl ?_
    refine q_getf rfl rfl (by decide) rfl rfl ?_
    refine q_getf rfl rfl (by decide) (FW_1 S hW) rfl ?_
    refine q_icge rfl rfl (fun c31 => ?_) (fun c31 => absurd (by decide) c31)
    refine q_iload rfl rfl rfl ?_
    refine q_iret rfl rfl trivial ?_
    refine ⟨_, rfl, ?_⟩
    refine q_lload_n rfl rfl rfl ?_
    refine q_nS1 rfl rfl (Or.inl rfl) rfl rfl ⟨rfl, rfl⟩ rfl ?_
    change PQ _ _ _ mm_X0_last 0 [.long 0, pm_un] [] _ _ 0 0 _
    refine q_lload_n rfl rfl rfl ?_
    refine q_bipush rfl rfl ?_
    refine q_lushr rfl rfl (q_tnl (z := 0) rfl ?_)
    refine q_l2i rfl rfl (q_tn (z := 0) rfl ?_)
    refine q_iconst rfl rfl ?_
    refine q_iand rfl rfl (q_tn (z := 0) rfl ?_)
    refine q_iconst rfl rfl ?_
    refine q_isub rfl rfl (q_tn (z := (-1)) rfl ?_)
    refine q_iret rfl rfl trivial ?_
    refine ⟨_, rfl, ?_⟩
    refine q_nV2 rfl rfl (Or.inl rfl) rfl rfl rfl (by decide) rfl ⟨rfl, rfl⟩ rfl ?_
    change PQ _ _ _ mm_X6_chosenHands 0 [.ref 7, .int 0, .int (-1), pm_un, pm_un] [] _ _ 0 0 _
    refine q_aload_n rfl rfl rfl ?_
    refine q_getf rfl rfl (by decide) rfl rfl ?_
    refine q_iconst rfl rfl ?_
    refine q_icne rfl rfl (fun c32 => absurd c32 (by decide)) (fun c32 => ?_)
    refine q_aload_n rfl rfl rfl ?_
    refine q_getf rfl rfl (by decide) rfl rfl ?_
    refine q_iconst rfl rfl ?_
    refine q_iceq rfl rfl (fun c33 => absurd c33 (by decide)) (fun c33 => ?_)
    refine q_iload_n rfl rfl rfl ?_
    refine q_iret rfl rfl trivial ?_
    refine ⟨_, rfl, ?_⟩
    refine q_ist5 rfl rfl rfl rfl ?_
    refine q_iconst rfl rfl ?_
    refine q_ist6 rfl rfl rfl rfl ?_
    refine q_iload rfl rfl rfl ?_
    refine q_iconst rfl rfl ?_
    refine q_icge rfl rfl (fun c34 => absurd c34 (by decide)) (fun c34 => ?_)
    refine q_iconst rfl rfl ?_
    refine q_ist7 rfl rfl rfl rfl ?_
    refine q_iload rfl rfl rfl ?_
    refine q_iload rfl rfl rfl ?_
    refine q_iushr rfl rfl (q_tn (z := 0) rfl ?_)
    refine q_iconst rfl rfl ?_
    refine q_iand rfl rfl (q_tn (z := 0) rfl ?_)
    refine q_ifeq rfl rfl (fun c35 => ?_) (fun c35 => absurd (by decide) c35)
    refine q_aload_n rfl rfl rfl ?_
    refine q_getf rfl rfl (by decide) rfl rfl ?_
    refine q_iload_n rfl rfl rfl ?_
    refine q_iconst rfl rfl ?_
    refine q_imul rfl rfl (q_tn (z := 0) rfl ?_)
    refine q_iload rfl rfl rfl ?_
    refine q_iadd rfl rfl (q_tn (z := 0) rfl ?_)
    refine q_iload rfl rfl rfl ?_
    refine q_iast rfl rfl (by decide) (FW_13 S hW) (by decide) ?_
    refine q_icc6 (z := 1) rfl rfl rfl rfl rfl ?_
    refine q_goto rfl ?_
    refine q_iload rfl rfl rfl ?_
    refine q_iconst rfl rfl ?_
    refine q_icge rfl rfl (fun c36 => absurd c36 (by decide)) (fun c36 => ?_)
    refine q_iconst rfl rfl ?_
    refine q_ist7 rfl rfl rfl rfl ?_
    refine q_iload rfl rfl rfl ?_
    refine q_iload rfl rfl rfl ?_
    refine q_iushr rfl rfl (q_tn (z := 0) rfl ?_)
    refine q_iconst rfl rfl ?_
    refine q_iand rfl rfl (q_tn (z := 0) rfl ?_)
    refine q_ifeq rfl rfl (fun c37 => ?_) (fun c37 => absurd (by decide) c37)
    refine q_aload_n rfl rfl rfl ?_
    refine q_getf rfl rfl (by decide) rfl rfl ?_
    refine q_iload_n rfl rfl rfl ?_
    refine q_iconst rfl rfl ?_
    refine q_imul rfl rfl (q_tn (z := 0) rfl ?_)
    refine q_iload rfl rfl rfl ?_
    refine q_iadd rfl rfl (q_tn (z := 1) rfl ?_)
    refine q_iload rfl rfl rfl ?_
    refine q_iast rfl rfl (by decide) rfl (by decide) ?_
    refine q_icc6 (z := 2) rfl rfl rfl rfl rfl ?_
    refine q_goto rfl ?_
    refine q_iload rfl rfl rfl ?_
    refine q_iconst rfl rfl ?_
    refine q_icge rfl rfl (fun c38 => absurd c38 (by decide)) (fun c38 => ?_)
    refine q_iconst rfl rfl ?_
    refine q_ist7 rfl rfl rfl rfl ?_
    refine q_iload rfl rfl rfl ?_
    refine q_iload rfl rfl rfl ?_
    refine q_iushr rfl rfl (q_tn (z := 0) rfl ?_)
    refine q_iconst rfl rfl ?_
    refine q_iand rfl rfl (q_tn (z := 0) rfl ?_)
    refine q_ifeq rfl rfl (fun c39 => ?_) (fun c39 => absurd (by decide) c39)
    refine q_aload_n rfl rfl rfl ?_
    refine q_getf rfl rfl (by decide) rfl rfl ?_
    refine q_iload_n rfl rfl rfl ?_
    refine q_iconst rfl rfl ?_
    refine q_imul rfl rfl (q_tn (z := 0) rfl ?_)
    refine q_iload rfl rfl rfl ?_
    refine q_iadd rfl rfl (q_tn (z := 2) rfl ?_)
    refine q_iload rfl rfl rfl ?_
    refine q_iast rfl rfl (by decide) rfl (by decide) ?_
    refine q_icc6 (z := 3) rfl rfl rfl rfl rfl ?_
    refine q_goto rfl ?_
    refine q_iload rfl rfl rfl ?_
    refine q_iconst rfl rfl ?_
    refine q_icge rfl rfl (fun c40 => ?_) (fun c40 => absurd (by decide) c40)
    refine q_aload_n rfl rfl rfl ?_
    refine q_getf rfl rfl (by decide) rfl rfl ?_
    refine q_iload_n rfl rfl rfl ?_
    refine q_iload rfl rfl rfl ?_
    refine q_ifeq rfl rfl (fun c41 => ?_) (fun c41 => absurd (by decide) c41)
    refine q_aload_n rfl rfl rfl ?_
    refine q_lload_n rfl rfl rfl ?_
    refine q_nV1 rfl rfl (Or.inl rfl) rfl rfl rfl (by decide) rfl ⟨rfl, rfl⟩ rfl ?_
    change PQ _ _ _ mm_X6_isEnd 0 [.ref 7, .long 0, pm_un, pm_un] [] _ _ 0 0 _
    refine q_iconst rfl rfl ?_
    refine q_ist3n rfl rfl rfl rfl ?_
    refine q_iload_n rfl rfl rfl ?_
    refine q_aload_n rfl rfl rfl ?_
    refine q_getf rfl rfl (by decide) rfl rfl ?_
    refine q_getf rfl rfl (by decide) (FW_1 S hW) rfl ?_
    refine q_icge rfl rfl (fun c42 => absurd c42 (by decide)) (fun c42 => ?_)
    refine q_aload_n rfl rfl rfl ?_
    refine q_getf rfl rfl (by decide) rfl rfl ?_
    refine q_iload_n rfl rfl rfl ?_
    refine q_lload_n rfl rfl rfl ?_
    refine q_iload_n rfl rfl rfl ?_
    refine q_nS2 rfl rfl (Or.inl rfl) rfl rfl ⟨rfl, rfl⟩ rfl ?_
    change PQ _ _ _ mm_X0_position 0 [.long 0, pm_un, .int 0] [] _ _ 0 0 _
    refine q_lload_n rfl rfl rfl ?_
    refine q_bipush rfl rfl ?_
    refine q_iload_n rfl rfl rfl ?_
    refine q_imul rfl rfl (q_tn (z := 0) rfl ?_)
    refine q_lushr rfl rfl (q_tnl (z := 0) rfl ?_)
    refine q_l2i rfl rfl (q_tn (z := 0) rfl ?_)
    refine q_bipush rfl rfl ?_
    refine q_iand rfl rfl (q_tn (z := 0) rfl ?_)
    refine q_iret rfl rfl trivial ?_
    refine ⟨_, rfl, ?_⟩
    refine q_nV2 rfl rfl (Or.inl rfl) rfl rfl rfl (by decide) (FW_1 S hW) ⟨rfl, rfl⟩ rfl ?_
    change PQ _ _ _ mm_X8_cellOf 0 [.ref 1, .int 0, .int 0, pm_un] [] _ _ 0 0 _
    refine q_iload_n rfl rfl rfl ?_
    refine q_iflt rfl rfl (fun c43 => absurd c43 (by decide)) (fun c43 => ?_)
    refine q_iload_n rfl rfl rfl ?_
    refine q_aload_n rfl rfl rfl ?_
    refine q_getf rfl rfl (by decide) (FW_1 S hW) rfl ?_
    refine q_icge rfl rfl (fun c44 => absurd c44 (by decide)) (fun c44 => ?_)
    refine q_iload_n rfl rfl rfl ?_
    refine q_iflt rfl rfl (fun c45 => absurd c45 (by decide)) (fun c45 => ?_)
    refine q_iload_n rfl rfl rfl ?_
    refine q_aload_n rfl rfl rfl ?_
    refine q_getf rfl rfl (by decide) (FW_1 S hW) rfl ?_
    refine q_iload_n rfl rfl rfl ?_
    refine q_iald rfl rfl (by decide) (FW_3 S hW) (by decide) (q_tn (z := 0) rfl ?_)
    refine q_icge rfl rfl (fun c46 => ?_) (fun c46 => absurd (by decide) c46)
    refine q_iconst rfl rfl ?_
    refine q_ist3n rfl rfl rfl rfl ?_
    refine q_iload_n rfl rfl rfl ?_
    refine q_ifeq rfl rfl (fun c47 => ?_) (fun c47 => absurd (by decide) c47)
    refine q_iconst rfl rfl ?_
    refine q_iret rfl rfl trivial ?_
    refine ⟨_, rfl, ?_⟩
    refine q_iflt rfl rfl (fun c48 => ?_) (fun c48 => absurd (by decide) c48)
    refine q_icc3 (z := 1) rfl rfl rfl rfl rfl ?_
    refine q_goto rfl ?_
    refine q_iload_n rfl rfl rfl ?_
    refine q_aload_n rfl rfl rfl ?_
    refine q_getf rfl rfl (by decide) rfl rfl ?_
    refine q_getf rfl rfl (by decide) (FW_1 S hW) rfl ?_
    refine q_icge rfl rfl (fun c49 => ?_) (fun c49 => absurd (by decide) c49)
    refine q_iconst rfl rfl ?_
    refine q_iret rfl rfl rfl ?_
    refine ⟨_, rfl, ?_⟩
    refine q_ifeq rfl rfl (fun c50 => absurd c50 (by decide)) (fun c50 => ?_)
    refine q_iconst rfl rfl ?_
    refine q_goto rfl ?_
    refine q_iast rfl rfl (by decide) (FW_12 S hW) (by decide) ?_
    refine q_aload_n rfl rfl rfl ?_
    refine q_dupr rfl rfl ?_
    refine q_getf rfl rfl (by decide) rfl rfl ?_
    refine q_aload_n rfl rfl rfl ?_
    refine q_getf rfl rfl (by decide) rfl rfl ?_
    refine q_iload_n rfl rfl rfl ?_
    refine q_iald rfl rfl (by decide) rfl (by decide) (q_tn (z := 1) rfl ?_)
    refine q_iconst rfl rfl ?_
    refine q_iceq rfl rfl (fun c51 => absurd c51 (by decide)) (fun c51 => ?_)
    refine q_aload_n rfl rfl rfl ?_
    refine q_lload_n rfl rfl rfl ?_
    refine q_nV1 rfl rfl (Or.inl rfl) rfl rfl rfl (by decide) rfl ⟨rfl, rfl⟩ rfl ?_
    change PQ _ _ _ mm_X6_someFailed 0 [.ref 7, .long 0, pm_un, pm_un] [] _ _ 0 0 _
    refine q_iconst rfl rfl ?_
    refine q_ist3n rfl rfl rfl rfl ?_
    refine q_iload_n rfl rfl rfl ?_
    refine q_aload_n rfl rfl rfl ?_
    refine q_getf rfl rfl (by decide) rfl rfl ?_
    refine q_getf rfl rfl (by decide) (FW_1 S hW) rfl ?_
    refine q_icge rfl rfl (fun c52 => absurd c52 (by decide)) (fun c52 => ?_)
    refine q_lload_n rfl rfl rfl ?_
    refine q_iload_n rfl rfl rfl ?_
    refine q_nS2 rfl rfl (Or.inl rfl) rfl rfl ⟨rfl, rfl⟩ rfl ?_
    change PQ _ _ _ mm_X0_position 0 [.long 0, pm_un, .int 0] [] _ _ 0 0 _
    refine q_lload_n rfl rfl rfl ?_
    refine q_bipush rfl rfl ?_
    refine q_iload_n rfl rfl rfl ?_
    refine q_imul rfl rfl (q_tn (z := 0) rfl ?_)
    refine q_lushr rfl rfl (q_tnl (z := 0) rfl ?_)
    refine q_l2i rfl rfl (q_tn (z := 0) rfl ?_)
    refine q_bipush rfl rfl ?_
    refine q_iand rfl rfl (q_tn (z := 0) rfl ?_)
    refine q_iret rfl rfl trivial ?_
    refine ⟨_, rfl, ?_⟩
    refine q_bipush rfl rfl ?_
    refine q_icne rfl rfl (fun c53 => absurd c53 (by decide)) (fun c53 => ?_)
    refine q_icc3 (z := 1) rfl rfl rfl rfl rfl ?_
    refine q_goto rfl ?_
    refine q_iload_n rfl rfl rfl ?_
    refine q_aload_n rfl rfl rfl ?_
    refine q_getf rfl rfl (by decide) rfl rfl ?_
    refine q_getf rfl rfl (by decide) (FW_1 S hW) rfl ?_
    refine q_icge rfl rfl (fun c54 => ?_) (fun c54 => absurd (by decide) c54)
    refine q_iconst rfl rfl ?_
    refine q_iret rfl rfl rfl ?_
    refine ⟨_, rfl, ?_⟩
    refine q_ifeq rfl rfl (fun c55 => ?_) (fun c55 => absurd (by decide) c55)
    refine q_iconst rfl rfl ?_
    refine q_ior rfl rfl (q_tn (z := 0) rfl ?_)
    refine q_putf rfl rfl (by decide) rfl (by decide) rfl rfl ?_
    refine q_aload_n rfl rfl rfl ?_
    refine q_getf rfl rfl (by decide) rfl rfl ?_
    refine q_iload_n rfl rfl rfl ?_
    refine q_iald rfl rfl (by decide) rfl (by decide) (q_tn (z := 1) rfl ?_)
    refine q_iconst rfl rfl ?_
    refine q_icne rfl rfl (fun c56 => ?_) (fun c56 => absurd (by decide) c56)
    refine q_aload_n rfl rfl rfl ?_
    refine q_lload_n rfl rfl rfl ?_
    refine q_nV1v rfl rfl (Or.inl rfl) rfl rfl rfl (by decide) rfl ⟨rfl, rfl⟩ rfl ?_
    change PQ _ _ _ mm_X7_noteEnd 0 [.ref 8, .long 0, pm_un, pm_un] [] _ _ 0 0 _
    refine q_iconst rfl rfl ?_
    refine q_ist3n rfl rfl rfl rfl ?_
    refine q_iload_n rfl rfl rfl ?_
    refine q_iconst rfl rfl ?_
    refine q_icge rfl rfl (fun c57 => absurd c57 (by decide)) (fun c57 => ?_)
    refine q_aload_n rfl rfl rfl ?_
    refine q_dupr rfl rfl ?_
    refine q_getf rfl rfl (by decide) rfl rfl ?_
    refine q_lconst rfl rfl ?_
    refine q_bipush rfl rfl ?_
    refine q_iload_n rfl rfl rfl ?_
    refine q_imul rfl rfl (q_tn (z := 0) rfl ?_)
    refine q_lload_n rfl rfl rfl ?_
    refine q_iload_n rfl rfl rfl ?_
    refine q_nS2 rfl rfl (Or.inl rfl) rfl rfl ⟨rfl, rfl⟩ rfl ?_
    change PQ _ _ _ mm_X0_place 0 [.long 0, pm_un, .int 0] [] _ _ 0 0 _
    refine q_lload_n rfl rfl rfl ?_
    refine q_bipush rfl rfl ?_
    refine q_iconst rfl rfl ?_
    refine q_iload_n rfl rfl rfl ?_
    refine q_imul rfl rfl (q_tn (z := 0) rfl ?_)
    refine q_iadd rfl rfl (q_tn (z := 36) rfl ?_)
    refine q_lushr rfl rfl (q_tnl (z := 0) rfl ?_)
    refine q_l2i rfl rfl (q_tn (z := 0) rfl ?_)
    refine q_bipush rfl rfl ?_
    refine q_iand rfl rfl (q_tn (z := 0) rfl ?_)
    refine q_iret rfl rfl trivial ?_
    refine ⟨_, rfl, ?_⟩
    refine q_iadd rfl rfl (q_tn (z := 0) rfl ?_)
    refine q_lshl rfl rfl (q_tnl (z := 1) rfl ?_)
    refine q_lor rfl rfl (q_tnl (z := 1) rfl ?_)
    refine q_putf rfl rfl (by decide) rfl (by decide) rfl trivial ?_
    refine q_icc3 (z := 1) rfl rfl rfl rfl rfl ?_
    refine q_goto rfl ?_
    refine q_iload_n rfl rfl rfl ?_
    refine q_iconst rfl rfl ?_
    refine q_icge rfl rfl (fun c58 => absurd c58 (by decide)) (fun c58 => ?_)
    refine q_aload_n rfl rfl rfl ?_
    refine q_dupr rfl rfl ?_
    refine q_getf rfl rfl (by decide) rfl rfl ?_
    refine q_lconst rfl rfl ?_
    refine q_bipush rfl rfl ?_
    refine q_iload_n rfl rfl rfl ?_
    refine q_imul rfl rfl (q_tn (z := 10) rfl ?_)
    refine q_lload_n rfl rfl rfl ?_
    refine q_iload_n rfl rfl rfl ?_
    refine q_nS2 rfl rfl (Or.inl rfl) rfl rfl ⟨rfl, rfl⟩ rfl ?_
    change PQ _ _ _ mm_X0_place 0 [.long 0, pm_un, .int 1] [] _ _ 0 0 _
    refine q_lload_n rfl rfl rfl ?_
    refine q_bipush rfl rfl ?_
    refine q_iconst rfl rfl ?_
    refine q_iload_n rfl rfl rfl ?_
    refine q_imul rfl rfl (q_tn (z := 4) rfl ?_)
    refine q_iadd rfl rfl (q_tn (z := 40) rfl ?_)
    refine q_lushr rfl rfl (q_tnl (z := 0) rfl ?_)
    refine q_l2i rfl rfl (q_tn (z := 0) rfl ?_)
    refine q_bipush rfl rfl ?_
    refine q_iand rfl rfl (q_tn (z := 0) rfl ?_)
    refine q_iret rfl rfl trivial ?_
    refine ⟨_, rfl, ?_⟩
    refine q_iadd rfl rfl (q_tn (z := 10) rfl ?_)
    refine q_lshl rfl rfl (q_tnl (z := 1024) rfl ?_)
    refine q_lor rfl rfl (q_tnl (z := 1025) rfl ?_)
    refine q_putf rfl rfl (by decide) rfl (by decide) rfl trivial ?_
    refine q_icc3 (z := 2) rfl rfl rfl rfl rfl ?_
    refine q_goto rfl ?_
    refine q_iload_n rfl rfl rfl ?_
    refine q_iconst rfl rfl ?_
    refine q_icge rfl rfl (fun c59 => absurd c59 (by decide)) (fun c59 => ?_)
    refine q_aload_n rfl rfl rfl ?_
    refine q_dupr rfl rfl ?_
    refine q_getf rfl rfl (by decide) rfl rfl ?_
    refine q_lconst rfl rfl ?_
    refine q_bipush rfl rfl ?_
    refine q_iload_n rfl rfl rfl ?_
    refine q_imul rfl rfl (q_tn (z := 20) rfl ?_)
    refine q_lload_n rfl rfl rfl ?_
    refine q_iload_n rfl rfl rfl ?_
    refine q_nS2 rfl rfl (Or.inl rfl) rfl rfl ⟨rfl, rfl⟩ rfl ?_
    change PQ _ _ _ mm_X0_place 0 [.long 0, pm_un, .int 2] [] _ _ 0 0 _
    refine q_lload_n rfl rfl rfl ?_
    refine q_bipush rfl rfl ?_
    refine q_iconst rfl rfl ?_
    refine q_iload_n rfl rfl rfl ?_
    refine q_imul rfl rfl (q_tn (z := 8) rfl ?_)
    refine q_iadd rfl rfl (q_tn (z := 44) rfl ?_)
    refine q_lushr rfl rfl (q_tnl (z := 0) rfl ?_)
    refine q_l2i rfl rfl (q_tn (z := 0) rfl ?_)
    refine q_bipush rfl rfl ?_
    refine q_iand rfl rfl (q_tn (z := 0) rfl ?_)
    refine q_iret rfl rfl trivial ?_
    refine ⟨_, rfl, ?_⟩
    refine q_iadd rfl rfl (q_tn (z := 20) rfl ?_)
    refine q_lshl rfl rfl (q_tnl (z := 1048576) rfl ?_)
    refine q_lor rfl rfl (q_tnl (z := 1049601) rfl ?_)
    refine q_putf rfl rfl (by decide) rfl (by decide) rfl trivial ?_
    refine q_icc3 (z := 3) rfl rfl rfl rfl rfl ?_
    refine q_goto rfl ?_
    refine q_iload_n rfl rfl rfl ?_
    refine q_iconst rfl rfl ?_
    refine q_icge rfl rfl (fun c60 => absurd c60 (by decide)) (fun c60 => ?_)
    refine q_aload_n rfl rfl rfl ?_
    refine q_dupr rfl rfl ?_
    refine q_getf rfl rfl (by decide) rfl rfl ?_
    refine q_lconst rfl rfl ?_
    refine q_bipush rfl rfl ?_
    refine q_iload_n rfl rfl rfl ?_
    refine q_imul rfl rfl (q_tn (z := 30) rfl ?_)
    refine q_lload_n rfl rfl rfl ?_
    refine q_iload_n rfl rfl rfl ?_
    refine q_nS2 rfl rfl (Or.inl rfl) rfl rfl ⟨rfl, rfl⟩ rfl ?_
    change PQ _ _ _ mm_X0_place 0 [.long 0, pm_un, .int 3] [] _ _ 0 0 _
    refine q_lload_n rfl rfl rfl ?_
    refine q_bipush rfl rfl ?_
    refine q_iconst rfl rfl ?_
    refine q_iload_n rfl rfl rfl ?_
    refine q_imul rfl rfl (q_tn (z := 12) rfl ?_)
    refine q_iadd rfl rfl (q_tn (z := 48) rfl ?_)
    refine q_lushr rfl rfl (q_tnl (z := 0) rfl ?_)
    refine q_l2i rfl rfl (q_tn (z := 0) rfl ?_)
    refine q_bipush rfl rfl ?_
    refine q_iand rfl rfl (q_tn (z := 0) rfl ?_)
    refine q_iret rfl rfl trivial ?_
    refine ⟨_, rfl, ?_⟩
    refine q_iadd rfl rfl (q_tn (z := 30) rfl ?_)
    refine q_lshl rfl rfl (q_tnl (z := 1073741824) rfl ?_)
    refine q_lor rfl rfl (q_tnl (z := 1074791425) rfl ?_)
    refine q_putf rfl rfl (by decide) rfl (by decide) rfl trivial ?_
    refine q_icc3 (z := 4) rfl rfl rfl rfl rfl ?_
    refine q_goto rfl ?_
    refine q_iload_n rfl rfl rfl ?_
    refine q_iconst rfl rfl ?_
    refine q_icge rfl rfl (fun c61 => ?_) (fun c61 => absurd (by decide) c61)
    refine q_ret rfl rfl ?_
    refine ⟨rfl, ?_⟩
    refine q_ret rfl rfl ?_
    refine ⟨rfl, ?_⟩
    refine q_aload_n rfl rfl rfl ?_
    refine q_getf rfl rfl (by decide) rfl rfl ?_
    refine q_ifne rfl rfl (fun c62 => ?_) (fun c62 => absurd (by decide) c62)
    refine q_iload_n rfl rfl rfl ?_
    refine q_ifeq rfl rfl (fun c63 => ?_) (fun c63 => absurd (by decide) c63)
    refine q_icc3 (z := 1) rfl rfl rfl rfl rfl ?_
    refine q_goto rfl ?_
    refine q_iload_n rfl rfl rfl ?_
    refine q_sipush rfl rfl ?_
    refine q_icge rfl rfl (fun c64 => absurd c64 (by decide)) (fun c64 => ?_)
    refine q_iload_n rfl rfl rfl ?_
    refine q_aload_n rfl rfl rfl ?_
    refine q_getf rfl rfl (by decide) rfl rfl ?_
    refine q_icge rfl rfl (fun c65 => ?_) (fun c65 => absurd (by decide) c65)
    refine q_ret rfl rfl ?_
    refine ⟨rfl, ?_⟩
    refine q_aload_n rfl rfl rfl ?_
    refine q_getf rfl rfl (by decide) (FW_0 S hW) rfl ?_
    refine q_iconst rfl rfl ?_
    refine q_putf rfl rfl (by decide) rfl (by decide) rfl trivial ?_
    refine q_aload_n rfl rfl rfl ?_
    refine q_getf rfl rfl (by decide) (FW_0 S hW) rfl ?_
    refine q_iload_n rfl rfl rfl ?_
    refine q_aload_n rfl rfl rfl ?_
    refine q_getf rfl rfl (by decide) rfl rfl ?_
    refine q_ifeq rfl rfl (fun c66 => ?_) (fun c66 => absurd (by decide) c66)
    refine q_aload_n rfl rfl rfl ?_
    refine q_getf rfl rfl (by decide) rfl rfl ?_
    refine q_iast rfl rfl (by decide) (FW_44 S hW) (by decide) ?_
    refine q_aload_n rfl rfl rfl ?_
    refine q_getf rfl rfl (by decide) (FW_0 S hW) rfl ?_
    refine q_iload_n rfl rfl rfl ?_
    refine q_aload_n rfl rfl rfl ?_
    refine q_getf rfl rfl (by decide) rfl rfl ?_
    refine q_last rfl rfl (by decide) (FW_45 S hW) (by decide) ?_
    refine q_aload_n rfl rfl rfl ?_
    refine q_getf rfl rfl (by decide) (FW_0 S hW) rfl ?_
    refine q_iload_n rfl rfl rfl ?_
    refine q_iald rfl rfl (by decide) rfl (by decide) (q_tn (z := 1) rfl ?_)
    refine q_iret rfl rfl trivial ?_
    refine ⟨_, rfl, ?_⟩
    refine q_ist2n rfl rfl rfl rfl ?_
    refine q_iload_n rfl rfl rfl ?_
    refine q_bipush rfl rfl ?_
    refine q_icne rfl rfl (fun c67 => absurd c67 (by decide)) (fun c67 => ?_)
    refine q_iload_n rfl rfl rfl ?_
    refine q_iload_n rfl rfl rfl ?_
    refine q_iclt rfl rfl (fun c68 => ?_) (fun c68 => ?_)
    · have e68 : x1 = 0 := Int32.le_antisymm (i_ltle c68 (B := 0) rfl) c1
      subst e68
      refine q_iconst rfl rfl ?_
      refine q_iret rfl rfl trivial ?_
      refine ⟨_, rfl, ?_⟩
      refine q_ist2n rfl rfl rfl rfl ?_
      refine q_iload_n rfl rfl rfl ?_
      refine q_ifeq rfl rfl (fun c69 => ?_) (fun c69 => absurd (by decide) c69)
      refine q_aload_n rfl rfl rfl ?_
      refine q_getf rfl rfl (by decide) (FW_0 S hW) rfl ?_
      refine q_iload_n rfl rfl rfl ?_
      refine q_nV1 rfl rfl (Or.inl rfl) rfl rfl rfl (by decide) rfl ⟨rfl, rfl⟩ rfl ?_
      change PQ _ _ _ mm_X7_wayLength 0 [.ref 8, .int 0, pm_un, pm_un] [] _ _ 0 0 _
      refine q_iconst rfl rfl ?_
      refine q_ist2n rfl rfl rfl rfl ?_
      refine q_iload_n rfl rfl rfl ?_
      refine q_ist3n rfl rfl rfl rfl ?_
      refine q_iload_n rfl rfl rfl ?_
      refine q_sipush rfl rfl ?_
      refine q_icge rfl rfl (fun c70 => absurd c70 (by decide)) (fun c70 => ?_)
      refine q_iload_n rfl rfl rfl ?_
      refine q_ifle rfl rfl (fun c71 => ?_) (fun c71 => absurd (by decide) c71)
      refine q_iload_n rfl rfl rfl ?_
      refine q_iret rfl rfl trivial ?_
      refine ⟨_, rfl, ?_⟩
      refine q_iret rfl rfl trivial ?_
      refine ⟨_, rfl, ?_⟩
      refine q_aload_n rfl rfl rfl ?_
      refine q_aload_nF rfl rfl rfl ?_
      refine q_iload rfl rfl rfl ?_
      refine q_iconst rfl rfl ?_
      refine q_iadd rfl rfl (q_tn (z := 1) rfl ?_)
      refine q_ialdX (x := 0) rfl rfl rfl hx1 ?_
      refine q_nV1 rfl rfl (Or.inl rfl) rfl rfl rfl (by decide) (FW_46 S hW) ⟨rfl, rfl⟩ rfl ?_
      change PQ _ _ _ mm_X12_way 0 [.ref 46, .int 0] [] _ _ 0 0 _
      refine q_aload_n rfl rfl rfl ?_
      refine q_iload_n rfl rfl rfl ?_
      refine q_nV1 rfl rfl (Or.inl rfl) rfl rfl rfl (by decide) (FW_46 S hW) ⟨rfl, rfl⟩ rfl ?_
      change PQ _ _ _ mm_X12_lacks 0 [.ref 46, .int 0] [] _ _ 0 0 _
      refine q_iload_n rfl rfl rfl ?_
      refine q_ifge rfl rfl (fun c72 => ?_) (fun c72 => absurd (by decide) c72)
      refine q_aload_n rfl rfl rfl ?_
      refine q_iconst rfl rfl ?_
      refine q_nV1 rfl rfl (Or.inl rfl) rfl rfl rfl (by decide) (FW_46 S hW) ⟨rfl, rfl⟩ rfl ?_
      change PQ _ _ _ mm_X12_isSpent 0 [.ref 46, .int 0, pm_un, pm_un, pm_un] [] _ _ 0 0 _
      refine q_iload_n rfl rfl rfl ?_
      refine q_ifne rfl rfl (fun c73 => ?_) (fun c73 => absurd (by decide) c73)
      refine q_iconst rfl rfl ?_
      refine q_goto rfl ?_
      refine q_ist2n rfl rfl rfl rfl ?_
      refine q_aload_n rfl rfl rfl ?_
      refine q_iconst rfl rfl ?_
      refine q_putf rfl rfl (by decide) (FW_46 S hW) (by decide) rfl trivial ?_
      refine q_aload_n rfl rfl rfl ?_
      refine q_getf rfl rfl (by decide) rfl rfl ?_
      refine q_iload_n rfl rfl rfl ?_
      refine q_iald rfl rfl (by decide) (FW_62 S hW) (by decide) (q_tn (z := 0) rfl ?_)
      refine q_ifeq rfl rfl (fun c74 => ?_) (fun c74 => absurd (by decide) c74)
      refine q_aload_n rfl rfl rfl ?_
      refine q_getf rfl rfl (by decide) rfl rfl ?_
      refine q_iload_n rfl rfl rfl ?_
      refine q_aload_n rfl rfl rfl ?_
      refine q_iload_n rfl rfl rfl ?_
      refine q_iload_n rfl rfl rfl ?_
      refine q_nV2 rfl rfl (Or.inl rfl) rfl rfl rfl (by decide) rfl ⟨rfl, rfl⟩ rfl ?_
      change PQ _ _ _ mm_X12_explore 0 [.ref 46, .int 0, .int 0, pm_un, pm_un, pm_un, pm_un, pm_un] [] _ _ 0 0 _
      refine q_iconst rfl rfl ?_
      refine q_ist3n rfl rfl rfl rfl ?_
      refine l_net (R := 0) (by decide) rfl (by decide) rfl rfl (FW_61 S hW) ?_
      refine q_aload_n rfl rfl rfl ?_
      refine q_getf rfl rfl (by decide) rfl rfl ?_
      refine q_iload_n rfl rfl rfl ?_
      refine q_iconst rfl rfl ?_
      refine q_iast rfl rfl (by decide) (FW_60 S hW) (by decide) ?_
      refine q_aload_n rfl rfl rfl ?_
      refine q_nV0v rfl rfl (Or.inl rfl) rfl rfl rfl (by decide) rfl ⟨rfl, rfl⟩ rfl ?_
      change PQ _ _ _ mm_X12_firstState 0 [.ref 46, pm_un] [] _ _ 0 0 _
      refine q_iconst rfl rfl ?_
      refine q_ist1n rfl rfl rfl rfl ?_
      refine q_iload_n rfl rfl rfl ?_
      refine q_bipush rfl rfl ?_
      refine q_icge rfl rfl (fun c75 => absurd c75 (by decide)) (fun c75 => ?_)
      refine q_aload_n rfl rfl rfl ?_
      refine q_getf rfl rfl (by decide) rfl rfl ?_
      refine q_iload_n rfl rfl rfl ?_
      refine q_iconst rfl rfl ?_
      refine q_iast rfl rfl (by decide) (FW_52 S hW) (by decide) ?_
      refine q_icc1 (z := 1) rfl rfl rfl rfl rfl ?_
      refine q_goto rfl ?_
      refine q_iload_n rfl rfl rfl ?_
      refine q_bipush rfl rfl ?_
      refine q_icge rfl rfl (fun c76 => absurd c76 (by decide)) (fun c76 => ?_)
      refine q_aload_n rfl rfl rfl ?_
      refine q_getf rfl rfl (by decide) rfl rfl ?_
      refine q_iload_n rfl rfl rfl ?_
      refine q_iconst rfl rfl ?_
      refine q_iast rfl rfl (by decide) rfl (by decide) ?_
      refine q_icc1 (z := 2) rfl rfl rfl rfl rfl ?_
      refine q_goto rfl ?_
      refine q_iload_n rfl rfl rfl ?_
      refine q_bipush rfl rfl ?_
      refine q_icge rfl rfl (fun c77 => absurd c77 (by decide)) (fun c77 => ?_)
      refine q_aload_n rfl rfl rfl ?_
      refine q_getf rfl rfl (by decide) rfl rfl ?_
      refine q_iload_n rfl rfl rfl ?_
      refine q_iconst rfl rfl ?_
      refine q_iast rfl rfl (by decide) rfl (by decide) ?_
      refine q_icc1 (z := 3) rfl rfl rfl rfl rfl ?_
      refine q_goto rfl ?_
      refine q_iload_n rfl rfl rfl ?_
      refine q_bipush rfl rfl ?_
      refine q_icge rfl rfl (fun c78 => absurd c78 (by decide)) (fun c78 => ?_)
      refine q_aload_n rfl rfl rfl ?_
      refine q_getf rfl rfl (by decide) rfl rfl ?_
      refine q_iload_n rfl rfl rfl ?_
      refine q_iconst rfl rfl ?_
      refine q_iast rfl rfl (by decide) rfl (by decide) ?_
      refine q_icc1 (z := 4) rfl rfl rfl rfl rfl ?_
      refine q_goto rfl ?_
      refine q_iload_n rfl rfl rfl ?_
      refine q_bipush rfl rfl ?_
      refine q_icge rfl rfl (fun c79 => absurd c79 (by decide)) (fun c79 => ?_)
      refine q_aload_n rfl rfl rfl ?_
      refine q_getf rfl rfl (by decide) rfl rfl ?_
      refine q_iload_n rfl rfl rfl ?_
      refine q_iconst rfl rfl ?_
      refine q_iast rfl rfl (by decide) rfl (by decide) ?_
      refine q_icc1 (z := 5) rfl rfl rfl rfl rfl ?_
      refine q_goto rfl ?_
      refine q_iload_n rfl rfl rfl ?_
      refine q_bipush rfl rfl ?_
      refine q_icge rfl rfl (fun c80 => absurd c80 (by decide)) (fun c80 => ?_)
      refine q_aload_n rfl rfl rfl ?_
      refine q_getf rfl rfl (by decide) rfl rfl ?_
      refine q_iload_n rfl rfl rfl ?_
      refine q_iconst rfl rfl ?_
      refine q_iast rfl rfl (by decide) rfl (by decide) ?_
      refine q_icc1 (z := 6) rfl rfl rfl rfl rfl ?_
      refine q_goto rfl ?_
      refine q_iload_n rfl rfl rfl ?_
      refine q_bipush rfl rfl ?_
      refine q_icge rfl rfl (fun c81 => absurd c81 (by decide)) (fun c81 => ?_)
      refine q_aload_n rfl rfl rfl ?_
      refine q_getf rfl rfl (by decide) rfl rfl ?_
      refine q_iload_n rfl rfl rfl ?_
      refine q_iconst rfl rfl ?_
      refine q_iast rfl rfl (by decide) rfl (by decide) ?_
      refine q_icc1 (z := 7) rfl rfl rfl rfl rfl ?_
      refine q_goto rfl ?_
      refine q_iload_n rfl rfl rfl ?_
      refine q_bipush rfl rfl ?_
      refine q_icge rfl rfl (fun c82 => absurd c82 (by decide)) (fun c82 => ?_)
      refine q_aload_n rfl rfl rfl ?_
      refine q_getf rfl rfl (by decide) rfl rfl ?_
      refine q_iload_n rfl rfl rfl ?_
      refine q_iconst rfl rfl ?_
      refine q_iast rfl rfl (by decide) rfl (by decide) ?_
      refine q_icc1 (z := 8) rfl rfl rfl rfl rfl ?_
      refine q_goto rfl ?_
      refine q_iload_n rfl rfl rfl ?_
      refine q_bipush rfl rfl ?_
      refine q_icge rfl rfl (fun c83 => absurd c83 (by decide)) (fun c83 => ?_)
      refine q_aload_n rfl rfl rfl ?_
      refine q_getf rfl rfl (by decide) rfl rfl ?_
      refine q_iload_n rfl rfl rfl ?_
      refine q_iconst rfl rfl ?_
      refine q_iast rfl rfl (by decide) rfl (by decide) ?_
      refine q_icc1 (z := 9) rfl rfl rfl rfl rfl ?_
      refine q_goto rfl ?_
      refine q_iload_n rfl rfl rfl ?_
      refine q_bipush rfl rfl ?_
      refine q_icge rfl rfl (fun c84 => absurd c84 (by decide)) (fun c84 => ?_)
      refine q_aload_n rfl rfl rfl ?_
      refine q_getf rfl rfl (by decide) rfl rfl ?_
      refine q_iload_n rfl rfl rfl ?_
      refine q_iconst rfl rfl ?_
      refine q_iast rfl rfl (by decide) rfl (by decide) ?_
      refine q_icc1 (z := 10) rfl rfl rfl rfl rfl ?_
      refine q_goto rfl ?_
      refine q_iload_n rfl rfl rfl ?_
      refine q_bipush rfl rfl ?_
      refine q_icge rfl rfl (fun c85 => absurd c85 (by decide)) (fun c85 => ?_)
      refine q_aload_n rfl rfl rfl ?_
      refine q_getf rfl rfl (by decide) rfl rfl ?_
      refine q_iload_n rfl rfl rfl ?_
      refine q_iconst rfl rfl ?_
      refine q_iast rfl rfl (by decide) rfl (by decide) ?_
      refine q_icc1 (z := 11) rfl rfl rfl rfl rfl ?_
      refine q_goto rfl ?_
      refine q_iload_n rfl rfl rfl ?_
      refine q_bipush rfl rfl ?_
      refine q_icge rfl rfl (fun c86 => absurd c86 (by decide)) (fun c86 => ?_)
      refine q_aload_n rfl rfl rfl ?_
      refine q_getf rfl rfl (by decide) rfl rfl ?_
      refine q_iload_n rfl rfl rfl ?_
      refine q_iconst rfl rfl ?_
      refine q_iast rfl rfl (by decide) rfl (by decide) ?_
      refine q_icc1 (z := 12) rfl rfl rfl rfl rfl ?_
      refine q_goto rfl ?_
      refine q_iload_n rfl rfl rfl ?_
      refine q_bipush rfl rfl ?_
      refine q_icge rfl rfl (fun c87 => absurd c87 (by decide)) (fun c87 => ?_)
      refine q_aload_n rfl rfl rfl ?_
      refine q_getf rfl rfl (by decide) rfl rfl ?_
      refine q_iload_n rfl rfl rfl ?_
      refine q_iconst rfl rfl ?_
      refine q_iast rfl rfl (by decide) rfl (by decide) ?_
      refine q_icc1 (z := 13) rfl rfl rfl rfl rfl ?_
      refine q_goto rfl ?_
      refine q_iload_n rfl rfl rfl ?_
      refine q_bipush rfl rfl ?_
      refine q_icge rfl rfl (fun c88 => absurd c88 (by decide)) (fun c88 => ?_)
      refine q_aload_n rfl rfl rfl ?_
      refine q_getf rfl rfl (by decide) rfl rfl ?_
      refine q_iload_n rfl rfl rfl ?_
      refine q_iconst rfl rfl ?_
      refine q_iast rfl rfl (by decide) rfl (by decide) ?_
      refine q_icc1 (z := 14) rfl rfl rfl rfl rfl ?_
      refine q_goto rfl ?_
      refine q_iload_n rfl rfl rfl ?_
      refine q_bipush rfl rfl ?_
      refine q_icge rfl rfl (fun c89 => absurd c89 (by decide)) (fun c89 => ?_)
      refine q_aload_n rfl rfl rfl ?_
      refine q_getf rfl rfl (by decide) rfl rfl ?_
      refine q_iload_n rfl rfl rfl ?_
      refine q_iconst rfl rfl ?_
      refine q_iast rfl rfl (by decide) rfl (by decide) ?_
      refine q_icc1 (z := 15) rfl rfl rfl rfl rfl ?_
      refine q_goto rfl ?_
      refine q_iload_n rfl rfl rfl ?_
      refine q_bipush rfl rfl ?_
      refine q_icge rfl rfl (fun c90 => absurd c90 (by decide)) (fun c90 => ?_)
      refine q_aload_n rfl rfl rfl ?_
      refine q_getf rfl rfl (by decide) rfl rfl ?_
      refine q_iload_n rfl rfl rfl ?_
      refine q_iconst rfl rfl ?_
      refine q_iast rfl rfl (by decide) rfl (by decide) ?_
      refine q_icc1 (z := 16) rfl rfl rfl rfl rfl ?_
      refine q_goto rfl ?_
      refine q_iload_n rfl rfl rfl ?_
      refine q_bipush rfl rfl ?_
      refine q_icge rfl rfl (fun c91 => absurd c91 (by decide)) (fun c91 => ?_)
      refine q_aload_n rfl rfl rfl ?_
      refine q_getf rfl rfl (by decide) rfl rfl ?_
      refine q_iload_n rfl rfl rfl ?_
      refine q_iconst rfl rfl ?_
      refine q_iast rfl rfl (by decide) rfl (by decide) ?_
      refine q_icc1 (z := 17) rfl rfl rfl rfl rfl ?_
      refine q_goto rfl ?_
      refine q_iload_n rfl rfl rfl ?_
      refine q_bipush rfl rfl ?_
      refine q_icge rfl rfl (fun c92 => absurd c92 (by decide)) (fun c92 => ?_)
      refine q_aload_n rfl rfl rfl ?_
      refine q_getf rfl rfl (by decide) rfl rfl ?_
      refine q_iload_n rfl rfl rfl ?_
      refine q_iconst rfl rfl ?_
      refine q_iast rfl rfl (by decide) rfl (by decide) ?_
      refine q_icc1 (z := 18) rfl rfl rfl rfl rfl ?_
      refine q_goto rfl ?_
      refine q_iload_n rfl rfl rfl ?_
      refine q_bipush rfl rfl ?_
      refine q_icge rfl rfl (fun c93 => absurd c93 (by decide)) (fun c93 => ?_)
      refine q_aload_n rfl rfl rfl ?_
      refine q_getf rfl rfl (by decide) rfl rfl ?_
      refine q_iload_n rfl rfl rfl ?_
      refine q_iconst rfl rfl ?_
      refine q_iast rfl rfl (by decide) rfl (by decide) ?_
      refine q_icc1 (z := 19) rfl rfl rfl rfl rfl ?_
      refine q_goto rfl ?_
      refine q_iload_n rfl rfl rfl ?_
      refine q_bipush rfl rfl ?_
      refine q_icge rfl rfl (fun c94 => absurd c94 (by decide)) (fun c94 => ?_)
      refine q_aload_n rfl rfl rfl ?_
      refine q_getf rfl rfl (by decide) rfl rfl ?_
      refine q_iload_n rfl rfl rfl ?_
      refine q_iconst rfl rfl ?_
      refine q_iast rfl rfl (by decide) rfl (by decide) ?_
      refine q_icc1 (z := 20) rfl rfl rfl rfl rfl ?_
      refine q_goto rfl ?_
      refine q_iload_n rfl rfl rfl ?_
      refine q_bipush rfl rfl ?_
      refine q_icge rfl rfl (fun c95 => ?_) (fun c95 => absurd (by decide) c95)
      refine q_iconst rfl rfl ?_
      refine q_ist1n rfl rfl rfl rfl ?_
      refine q_iload_n rfl rfl rfl ?_
      refine q_aload_n rfl rfl rfl ?_
      refine q_getf rfl rfl (by decide) rfl rfl ?_
      refine q_icge rfl rfl (fun c96 => absurd c96 (by decide)) (fun c96 => ?_)
      refine q_aload_n rfl rfl rfl ?_
      refine q_getf rfl rfl (by decide) rfl rfl ?_
      refine q_iconst rfl rfl ?_
      refine q_iload_n rfl rfl rfl ?_
      refine q_imul rfl rfl (q_tn (z := 0) rfl ?_)
      refine q_aload_n rfl rfl rfl ?_
      refine q_getf rfl rfl (by decide) rfl rfl ?_
      refine q_aload_n rfl rfl rfl ?_
      refine q_getf rfl rfl (by decide) rfl rfl ?_
      refine q_iload_n rfl rfl rfl ?_
      refine q_iadd rfl rfl (q_tn (z := 0) rfl ?_)
      refine q_iald rfl rfl (by decide) (FW_47 S hW) (by decide) (q_tn (z := 0) rfl ?_)
      refine q_ifne rfl rfl (fun c97 => ?_) (fun c97 => absurd (by decide) c97)
      refine q_bipush rfl rfl ?_
      refine q_goto rfl ?_
      refine q_iast rfl rfl (by decide) rfl (by decide) ?_
      refine q_icc1 (z := 1) rfl rfl rfl rfl rfl ?_
      refine q_goto rfl ?_
      refine q_iload_n rfl rfl rfl ?_
      refine q_aload_n rfl rfl rfl ?_
      refine q_getf rfl rfl (by decide) rfl rfl ?_
      refine q_icge rfl rfl (fun c98 => ?_) (fun c98 => absurd (by decide) c98)
      refine q_iconst rfl rfl ?_
      refine q_ist1n rfl rfl rfl rfl ?_
      refine q_iload_n rfl rfl rfl ?_
      refine q_iconst rfl rfl ?_
      refine q_icge rfl rfl (fun c99 => absurd c99 (by decide)) (fun c99 => ?_)
      refine q_aload_n rfl rfl rfl ?_
      refine q_getf rfl rfl (by decide) rfl rfl ?_
      refine q_bipush rfl rfl ?_
      refine q_iload_n rfl rfl rfl ?_
      refine q_iadd rfl rfl (q_tn (z := 12) rfl ?_)
      refine q_aload_n rfl rfl rfl ?_
      refine q_getf rfl rfl (by decide) rfl rfl ?_
      refine q_iload_n rfl rfl rfl ?_
      refine q_iald rfl rfl (by decide) (FW_51 S hW) (by decide) (q_tn (z := 0) rfl ?_)
      refine q_iast rfl rfl (by decide) rfl (by decide) ?_
      refine q_icc1 (z := 1) rfl rfl rfl rfl rfl ?_
      refine q_goto rfl ?_
      refine q_iload_n rfl rfl rfl ?_
      refine q_iconst rfl rfl ?_
      refine q_icge rfl rfl (fun c100 => absurd c100 (by decide)) (fun c100 => ?_)
      refine q_aload_n rfl rfl rfl ?_
      refine q_getf rfl rfl (by decide) rfl rfl ?_
      refine q_bipush rfl rfl ?_
      refine q_iload_n rfl rfl rfl ?_
      refine q_iadd rfl rfl (q_tn (z := 13) rfl ?_)
      refine q_aload_n rfl rfl rfl ?_
      refine q_getf rfl rfl (by decide) rfl rfl ?_
      refine q_iload_n rfl rfl rfl ?_
      refine q_iald rfl rfl (by decide) (FW_51 S hW) (by decide) (q_tn (z := 0) rfl ?_)
      refine q_iast rfl rfl (by decide) rfl (by decide) ?_
      refine q_icc1 (z := 2) rfl rfl rfl rfl rfl ?_
      refine q_goto rfl ?_
      refine q_iload_n rfl rfl rfl ?_
      refine q_iconst rfl rfl ?_
      refine q_icge rfl rfl (fun c101 => absurd c101 (by decide)) (fun c101 => ?_)
      refine q_aload_n rfl rfl rfl ?_
      refine q_getf rfl rfl (by decide) rfl rfl ?_
      refine q_bipush rfl rfl ?_
      refine q_iload_n rfl rfl rfl ?_
      refine q_iadd rfl rfl (q_tn (z := 14) rfl ?_)
      refine q_aload_n rfl rfl rfl ?_
      refine q_getf rfl rfl (by decide) rfl rfl ?_
      refine q_iload_n rfl rfl rfl ?_
      refine q_iald rfl rfl (by decide) (FW_51 S hW) (by decide) (q_tn (z := 0) rfl ?_)
      refine q_iast rfl rfl (by decide) rfl (by decide) ?_
      refine q_icc1 (z := 3) rfl rfl rfl rfl rfl ?_
      refine q_goto rfl ?_
      refine q_iload_n rfl rfl rfl ?_
      refine q_iconst rfl rfl ?_
      refine q_icge rfl rfl (fun c102 => absurd c102 (by decide)) (fun c102 => ?_)
      refine q_aload_n rfl rfl rfl ?_
      refine q_getf rfl rfl (by decide) rfl rfl ?_
      refine q_bipush rfl rfl ?_
      refine q_iload_n rfl rfl rfl ?_
      refine q_iadd rfl rfl (q_tn (z := 15) rfl ?_)
      refine q_aload_n rfl rfl rfl ?_
      refine q_getf rfl rfl (by decide) rfl rfl ?_
      refine q_iload_n rfl rfl rfl ?_
      refine q_iald rfl rfl (by decide) (FW_51 S hW) (by decide) (q_tn (z := 0) rfl ?_)
      refine q_iast rfl rfl (by decide) rfl (by decide) ?_
      refine q_icc1 (z := 4) rfl rfl rfl rfl rfl ?_
      refine q_goto rfl ?_
      refine q_iload_n rfl rfl rfl ?_
      refine q_iconst rfl rfl ?_
      refine q_icge rfl rfl (fun c103 => ?_) (fun c103 => absurd (by decide) c103)
      refine q_ret rfl rfl ?_
      refine ⟨rfl, ?_⟩
      refine q_iconst rfl rfl ?_
      refine q_ist3n rfl rfl rfl rfl ?_
      refine q_iload_n rfl rfl rfl ?_
      refine q_bipush rfl rfl ?_
      refine q_icge rfl rfl (fun c104 => absurd c104 (by decide)) (fun c104 => ?_)
      refine q_aload_n rfl rfl rfl ?_
      refine q_getf rfl rfl (by decide) rfl rfl ?_
      refine q_iload_n rfl rfl rfl ?_
      refine q_aload_n rfl rfl rfl ?_
      refine q_getf rfl rfl (by decide) rfl rfl ?_
      refine q_iload_n rfl rfl rfl ?_
      refine q_iald rfl rfl (by decide) rfl (by decide) (q_tn (z := 10) rfl ?_)
      refine q_iast rfl rfl (by decide) (FW_53 S hW) (by decide) ?_
      refine q_icc3 (z := 1) rfl rfl rfl rfl rfl ?_
      refine q_goto rfl ?_
      refine q_iload_n rfl rfl rfl ?_
      refine q_bipush rfl rfl ?_
      refine q_icge rfl rfl (fun c105 => absurd c105 (by decide)) (fun c105 => ?_)
      refine q_aload_n rfl rfl rfl ?_
      refine q_getf rfl rfl (by decide) rfl rfl ?_
      refine q_iload_n rfl rfl rfl ?_
      refine q_aload_n rfl rfl rfl ?_
      refine q_getf rfl rfl (by decide) rfl rfl ?_
      refine q_iload_n rfl rfl rfl ?_
      refine q_iald rfl rfl (by decide) rfl (by decide) (q_tn (z := 0) rfl ?_)
      refine q_iast rfl rfl (by decide) rfl (by decide) ?_
      refine q_icc3 (z := 2) rfl rfl rfl rfl rfl ?_
      refine q_goto rfl ?_
      refine q_iload_n rfl rfl rfl ?_
      refine q_bipush rfl rfl ?_
      refine q_icge rfl rfl (fun c106 => absurd c106 (by decide)) (fun c106 => ?_)
      refine q_aload_n rfl rfl rfl ?_
      refine q_getf rfl rfl (by decide) rfl rfl ?_
      refine q_iload_n rfl rfl rfl ?_
      refine q_aload_n rfl rfl rfl ?_
      refine q_getf rfl rfl (by decide) rfl rfl ?_
      refine q_iload_n rfl rfl rfl ?_
      refine q_iald rfl rfl (by decide) rfl (by decide) (q_tn (z := 0) rfl ?_)
      refine q_iast rfl rfl (by decide) rfl (by decide) ?_
      refine q_icc3 (z := 3) rfl rfl rfl rfl rfl ?_
      refine q_goto rfl ?_
      refine q_iload_n rfl rfl rfl ?_
      refine q_bipush rfl rfl ?_
      refine q_icge rfl rfl (fun c107 => absurd c107 (by decide)) (fun c107 => ?_)
      refine q_aload_n rfl rfl rfl ?_
      refine q_getf rfl rfl (by decide) rfl rfl ?_
      refine q_iload_n rfl rfl rfl ?_
      refine q_aload_n rfl rfl rfl ?_
      refine q_getf rfl rfl (by decide) rfl rfl ?_
      refine q_iload_n rfl rfl rfl ?_
      refine q_iald rfl rfl (by decide) rfl (by decide) (q_tn (z := 0) rfl ?_)
      refine q_iast rfl rfl (by decide) rfl (by decide) ?_
      refine q_icc3 (z := 4) rfl rfl rfl rfl rfl ?_
      refine q_goto rfl ?_
      refine q_iload_n rfl rfl rfl ?_
      refine q_bipush rfl rfl ?_
      refine q_icge rfl rfl (fun c108 => absurd c108 (by decide)) (fun c108 => ?_)
      refine q_aload_n rfl rfl rfl ?_
      refine q_getf rfl rfl (by decide) rfl rfl ?_
      refine q_iload_n rfl rfl rfl ?_
      refine q_aload_n rfl rfl rfl ?_
      refine q_getf rfl rfl (by decide) rfl rfl ?_
      refine q_iload_n rfl rfl rfl ?_
      refine q_iald rfl rfl (by decide) rfl (by decide) (q_tn (z := 0) rfl ?_)
      refine q_iast rfl rfl (by decide) rfl (by decide) ?_
      refine q_icc3 (z := 5) rfl rfl rfl rfl rfl ?_
      refine q_goto rfl ?_
      refine q_iload_n rfl rfl rfl ?_
      refine q_bipush rfl rfl ?_
      refine q_icge rfl rfl (fun c109 => absurd c109 (by decide)) (fun c109 => ?_)
      refine q_aload_n rfl rfl rfl ?_
      refine q_getf rfl rfl (by decide) rfl rfl ?_
      refine q_iload_n rfl rfl rfl ?_
      refine q_aload_n rfl rfl rfl ?_
      refine q_getf rfl rfl (by decide) rfl rfl ?_
      refine q_iload_n rfl rfl rfl ?_
      refine q_iald rfl rfl (by decide) rfl (by decide) (q_tn (z := 0) rfl ?_)
      refine q_iast rfl rfl (by decide) rfl (by decide) ?_
      refine q_icc3 (z := 6) rfl rfl rfl rfl rfl ?_
      refine q_goto rfl ?_
      refine q_iload_n rfl rfl rfl ?_
      refine q_bipush rfl rfl ?_
      refine q_icge rfl rfl (fun c110 => absurd c110 (by decide)) (fun c110 => ?_)
      refine q_aload_n rfl rfl rfl ?_
      refine q_getf rfl rfl (by decide) rfl rfl ?_
      refine q_iload_n rfl rfl rfl ?_
      refine q_aload_n rfl rfl rfl ?_
      refine q_getf rfl rfl (by decide) rfl rfl ?_
      refine q_iload_n rfl rfl rfl ?_
      refine q_iald rfl rfl (by decide) rfl (by decide) (q_tn (z := 0) rfl ?_)
      refine q_iast rfl rfl (by decide) rfl (by decide) ?_
      refine q_icc3 (z := 7) rfl rfl rfl rfl rfl ?_
      refine q_goto rfl ?_
      refine q_iload_n rfl rfl rfl ?_
      refine q_bipush rfl rfl ?_
      refine q_icge rfl rfl (fun c111 => absurd c111 (by decide)) (fun c111 => ?_)
      refine q_aload_n rfl rfl rfl ?_
      refine q_getf rfl rfl (by decide) rfl rfl ?_
      refine q_iload_n rfl rfl rfl ?_
      refine q_aload_n rfl rfl rfl ?_
      refine q_getf rfl rfl (by decide) rfl rfl ?_
      refine q_iload_n rfl rfl rfl ?_
      refine q_iald rfl rfl (by decide) rfl (by decide) (q_tn (z := 0) rfl ?_)
      refine q_iast rfl rfl (by decide) rfl (by decide) ?_
      refine q_icc3 (z := 8) rfl rfl rfl rfl rfl ?_
      refine q_goto rfl ?_
      refine q_iload_n rfl rfl rfl ?_
      refine q_bipush rfl rfl ?_
      refine q_icge rfl rfl (fun c112 => absurd c112 (by decide)) (fun c112 => ?_)
      refine q_aload_n rfl rfl rfl ?_
      refine q_getf rfl rfl (by decide) rfl rfl ?_
      refine q_iload_n rfl rfl rfl ?_
      refine q_aload_n rfl rfl rfl ?_
      refine q_getf rfl rfl (by decide) rfl rfl ?_
      refine q_iload_n rfl rfl rfl ?_
      refine q_iald rfl rfl (by decide) rfl (by decide) (q_tn (z := 0) rfl ?_)
      refine q_iast rfl rfl (by decide) rfl (by decide) ?_
      refine q_icc3 (z := 9) rfl rfl rfl rfl rfl ?_
      refine q_goto rfl ?_
      refine q_iload_n rfl rfl rfl ?_
      refine q_bipush rfl rfl ?_
      refine q_icge rfl rfl (fun c113 => absurd c113 (by decide)) (fun c113 => ?_)
      refine q_aload_n rfl rfl rfl ?_
      refine q_getf rfl rfl (by decide) rfl rfl ?_
      refine q_iload_n rfl rfl rfl ?_
      refine q_aload_n rfl rfl rfl ?_
      refine q_getf rfl rfl (by decide) rfl rfl ?_
      refine q_iload_n rfl rfl rfl ?_
      refine q_iald rfl rfl (by decide) rfl (by decide) (q_tn (z := 0) rfl ?_)
      refine q_iast rfl rfl (by decide) rfl (by decide) ?_
      refine q_icc3 (z := 10) rfl rfl rfl rfl rfl ?_
      refine q_goto rfl ?_
      refine q_iload_n rfl rfl rfl ?_
      refine q_bipush rfl rfl ?_
      refine q_icge rfl rfl (fun c114 => absurd c114 (by decide)) (fun c114 => ?_)
      refine q_aload_n rfl rfl rfl ?_
      refine q_getf rfl rfl (by decide) rfl rfl ?_
      refine q_iload_n rfl rfl rfl ?_
      refine q_aload_n rfl rfl rfl ?_
      refine q_getf rfl rfl (by decide) rfl rfl ?_
      refine q_iload_n rfl rfl rfl ?_
      refine q_iald rfl rfl (by decide) rfl (by decide) (q_tn (z := 0) rfl ?_)
      refine q_iast rfl rfl (by decide) rfl (by decide) ?_
      refine q_icc3 (z := 11) rfl rfl rfl rfl rfl ?_
      refine q_goto rfl ?_
      refine q_iload_n rfl rfl rfl ?_
      refine q_bipush rfl rfl ?_
      refine q_icge rfl rfl (fun c115 => absurd c115 (by decide)) (fun c115 => ?_)
      refine q_aload_n rfl rfl rfl ?_
      refine q_getf rfl rfl (by decide) rfl rfl ?_
      refine q_iload_n rfl rfl rfl ?_
      refine q_aload_n rfl rfl rfl ?_
      refine q_getf rfl rfl (by decide) rfl rfl ?_
      refine q_iload_n rfl rfl rfl ?_
      refine q_iald rfl rfl (by decide) rfl (by decide) (q_tn (z := 0) rfl ?_)
      refine q_iast rfl rfl (by decide) rfl (by decide) ?_
      refine q_icc3 (z := 12) rfl rfl rfl rfl rfl ?_
      refine q_goto rfl ?_
      refine q_iload_n rfl rfl rfl ?_
      refine q_bipush rfl rfl ?_
      refine q_icge rfl rfl (fun c116 => absurd c116 (by decide)) (fun c116 => ?_)
      refine q_aload_n rfl rfl rfl ?_
      refine q_getf rfl rfl (by decide) rfl rfl ?_
      refine q_iload_n rfl rfl rfl ?_
      refine q_aload_n rfl rfl rfl ?_
      refine q_getf rfl rfl (by decide) rfl rfl ?_
      refine q_iload_n rfl rfl rfl ?_
      refine q_iald rfl rfl (by decide) rfl (by decide) (q_tn (z := 0) rfl ?_)
      refine q_iast rfl rfl (by decide) rfl (by decide) ?_
      refine q_icc3 (z := 13) rfl rfl rfl rfl rfl ?_
      refine q_goto rfl ?_
      refine q_iload_n rfl rfl rfl ?_
      refine q_bipush rfl rfl ?_
      refine q_icge rfl rfl (fun c117 => absurd c117 (by decide)) (fun c117 => ?_)
      refine q_aload_n rfl rfl rfl ?_
      refine q_getf rfl rfl (by decide) rfl rfl ?_
      refine q_iload_n rfl rfl rfl ?_
      refine q_aload_n rfl rfl rfl ?_
      refine q_getf rfl rfl (by decide) rfl rfl ?_
      refine q_iload_n rfl rfl rfl ?_
      refine q_iald rfl rfl (by decide) rfl (by decide) (q_tn (z := 0) rfl ?_)
      refine q_iast rfl rfl (by decide) rfl (by decide) ?_
      refine q_icc3 (z := 14) rfl rfl rfl rfl rfl ?_
      refine q_goto rfl ?_
      refine q_iload_n rfl rfl rfl ?_
      refine q_bipush rfl rfl ?_
      refine q_icge rfl rfl (fun c118 => absurd c118 (by decide)) (fun c118 => ?_)
      refine q_aload_n rfl rfl rfl ?_
      refine q_getf rfl rfl (by decide) rfl rfl ?_
      refine q_iload_n rfl rfl rfl ?_
      refine q_aload_n rfl rfl rfl ?_
      refine q_getf rfl rfl (by decide) rfl rfl ?_
      refine q_iload_n rfl rfl rfl ?_
      refine q_iald rfl rfl (by decide) rfl (by decide) (q_tn (z := 0) rfl ?_)
      refine q_iast rfl rfl (by decide) rfl (by decide) ?_
      refine q_icc3 (z := 15) rfl rfl rfl rfl rfl ?_
      refine q_goto rfl ?_
      refine q_iload_n rfl rfl rfl ?_
      refine q_bipush rfl rfl ?_
      refine q_icge rfl rfl (fun c119 => absurd c119 (by decide)) (fun c119 => ?_)
      refine q_aload_n rfl rfl rfl ?_
      refine q_getf rfl rfl (by decide) rfl rfl ?_
      refine q_iload_n rfl rfl rfl ?_
      refine q_aload_n rfl rfl rfl ?_
      refine q_getf rfl rfl (by decide) rfl rfl ?_
      refine q_iload_n rfl rfl rfl ?_
      refine q_iald rfl rfl (by decide) rfl (by decide) (q_tn (z := 0) rfl ?_)
      refine q_iast rfl rfl (by decide) rfl (by decide) ?_
      refine q_icc3 (z := 16) rfl rfl rfl rfl rfl ?_
      refine q_goto rfl ?_
      refine q_iload_n rfl rfl rfl ?_
      refine q_bipush rfl rfl ?_
      refine q_icge rfl rfl (fun c120 => absurd c120 (by decide)) (fun c120 => ?_)
      refine q_aload_n rfl rfl rfl ?_
      refine q_getf rfl rfl (by decide) rfl rfl ?_
      refine q_iload_n rfl rfl rfl ?_
      refine q_aload_n rfl rfl rfl ?_
      refine q_getf rfl rfl (by decide) rfl rfl ?_
      refine q_iload_n rfl rfl rfl ?_
      refine q_iald rfl rfl (by decide) rfl (by decide) (q_tn (z := 0) rfl ?_)
      refine q_iast rfl rfl (by decide) rfl (by decide) ?_
      refine q_icc3 (z := 17) rfl rfl rfl rfl rfl ?_
      refine q_goto rfl ?_
      refine q_iload_n rfl rfl rfl ?_
      refine q_bipush rfl rfl ?_
      refine q_icge rfl rfl (fun c121 => absurd c121 (by decide)) (fun c121 => ?_)
      refine q_aload_n rfl rfl rfl ?_
      refine q_getf rfl rfl (by decide) rfl rfl ?_
      refine q_iload_n rfl rfl rfl ?_
      refine q_aload_n rfl rfl rfl ?_
      refine q_getf rfl rfl (by decide) rfl rfl ?_
      refine q_iload_n rfl rfl rfl ?_
      refine q_iald rfl rfl (by decide) rfl (by decide) (q_tn (z := 0) rfl ?_)
      refine q_iast rfl rfl (by decide) rfl (by decide) ?_
      refine q_icc3 (z := 18) rfl rfl rfl rfl rfl ?_
      refine q_goto rfl ?_
      refine q_iload_n rfl rfl rfl ?_
      refine q_bipush rfl rfl ?_
      refine q_icge rfl rfl (fun c122 => absurd c122 (by decide)) (fun c122 => ?_)
      refine q_aload_n rfl rfl rfl ?_
      refine q_getf rfl rfl (by decide) rfl rfl ?_
      refine q_iload_n rfl rfl rfl ?_
      refine q_aload_n rfl rfl rfl ?_
      refine q_getf rfl rfl (by decide) rfl rfl ?_
      refine q_iload_n rfl rfl rfl ?_
      refine q_iald rfl rfl (by decide) rfl (by decide) (q_tn (z := 0) rfl ?_)
      refine q_iast rfl rfl (by decide) rfl (by decide) ?_
      refine q_icc3 (z := 19) rfl rfl rfl rfl rfl ?_
      refine q_goto rfl ?_
      refine q_iload_n rfl rfl rfl ?_
      refine q_bipush rfl rfl ?_
      refine q_icge rfl rfl (fun c123 => absurd c123 (by decide)) (fun c123 => ?_)
      refine q_aload_n rfl rfl rfl ?_
      refine q_getf rfl rfl (by decide) rfl rfl ?_
      refine q_iload_n rfl rfl rfl ?_
      refine q_aload_n rfl rfl rfl ?_
      refine q_getf rfl rfl (by decide) rfl rfl ?_
      refine q_iload_n rfl rfl rfl ?_
      refine q_iald rfl rfl (by decide) rfl (by decide) (q_tn (z := 0) rfl ?_)
      refine q_iast rfl rfl (by decide) rfl (by decide) ?_
      refine q_icc3 (z := 20) rfl rfl rfl rfl rfl ?_
      refine q_goto rfl ?_
      refine q_iload_n rfl rfl rfl ?_
      refine q_bipush rfl rfl ?_
      refine q_icge rfl rfl (fun c124 => ?_) (fun c124 => absurd (by decide) c124)
      refine q_aload_n rfl rfl rfl ?_
      refine q_iload_n rfl rfl rfl ?_
      refine q_iconst rfl rfl ?_
      refine q_iconst rfl rfl ?_
      refine q_nV3 rfl rfl (Or.inl rfl) rfl rfl rfl (by decide) rfl ⟨rfl, rfl⟩ rfl ?_
      change PQ _ _ _ mm_X12_put 0 [.ref 46, .int 0, .int (-1), .int (-1), pm_un, pm_un, pm_un] [] _ _ 0 0 _
      refine q_aload_n rfl rfl rfl ?_
      refine q_getf rfl rfl (by decide) rfl rfl ?_
      refine q_iload_n rfl rfl rfl ?_
      refine q_iald rfl rfl (by decide) rfl (by decide) (q_tn (z := 0) rfl ?_)
      refine q_ist4 rfl rfl rfl rfl ?_
      refine q_iload rfl rfl rfl ?_
      refine q_sipush rfl rfl ?_
      refine q_icne rfl rfl (fun c125 => absurd c125 (by decide)) (fun c125 => ?_)
      refine q_sipush rfl rfl ?_
      refine q_iload_n rfl rfl rfl ?_
      refine q_imul rfl rfl (q_tn (z := 0) rfl ?_)
      refine q_iload rfl rfl rfl ?_
      refine q_iadd rfl rfl (q_tn (z := 0) rfl ?_)
      refine q_ist5 rfl rfl rfl rfl ?_
      refine q_iconst rfl rfl ?_
      refine q_ist6 rfl rfl rfl rfl ?_
      refine q_iload rfl rfl rfl ?_
      refine q_bipush rfl rfl ?_
      refine q_icge rfl rfl (fun c126 => absurd c126 (by decide)) (fun c126 => ?_)
      refine q_aload_n rfl rfl rfl ?_
      refine q_getf rfl rfl (by decide) rfl rfl ?_
      refine q_bipush rfl rfl ?_
      refine q_iload rfl rfl rfl ?_
      refine q_imul rfl rfl (q_tn (z := 0) rfl ?_)
      refine q_iload rfl rfl rfl ?_
      refine q_iadd rfl rfl (q_tn (z := 0) rfl ?_)
      refine q_aload_n rfl rfl rfl ?_
      refine q_getf rfl rfl (by decide) rfl rfl ?_
      refine q_iload rfl rfl rfl ?_
      refine q_iald rfl rfl (by decide) rfl (by decide) (q_tn (z := 10) rfl ?_)
      refine q_iast rfl rfl (by decide) (FW_55 S hW) (by decide) ?_
      refine q_icc6 (z := 1) rfl rfl rfl rfl rfl ?_
      refine q_goto rfl ?_
      refine q_iload rfl rfl rfl ?_
      refine q_bipush rfl rfl ?_
      refine q_icge rfl rfl (fun c127 => absurd c127 (by decide)) (fun c127 => ?_)
      refine q_aload_n rfl rfl rfl ?_
      refine q_getf rfl rfl (by decide) rfl rfl ?_
      refine q_bipush rfl rfl ?_
      refine q_iload rfl rfl rfl ?_
      refine q_imul rfl rfl (q_tn (z := 0) rfl ?_)
      refine q_iload rfl rfl rfl ?_
      refine q_iadd rfl rfl (q_tn (z := 1) rfl ?_)
      refine q_aload_n rfl rfl rfl ?_
      refine q_getf rfl rfl (by decide) rfl rfl ?_
      refine q_iload rfl rfl rfl ?_
      refine q_iald rfl rfl (by decide) rfl (by decide) (q_tn (z := 0) rfl ?_)
      refine q_iast rfl rfl (by decide) rfl (by decide) ?_
      refine q_icc6 (z := 2) rfl rfl rfl rfl rfl ?_
      refine q_goto rfl ?_
      refine q_iload rfl rfl rfl ?_
      refine q_bipush rfl rfl ?_
      refine q_icge rfl rfl (fun c128 => absurd c128 (by decide)) (fun c128 => ?_)
      refine q_aload_n rfl rfl rfl ?_
      refine q_getf rfl rfl (by decide) rfl rfl ?_
      refine q_bipush rfl rfl ?_
      refine q_iload rfl rfl rfl ?_
      refine q_imul rfl rfl (q_tn (z := 0) rfl ?_)
      refine q_iload rfl rfl rfl ?_
      refine q_iadd rfl rfl (q_tn (z := 2) rfl ?_)
      refine q_aload_n rfl rfl rfl ?_
      refine q_getf rfl rfl (by decide) rfl rfl ?_
      refine q_iload rfl rfl rfl ?_
      refine q_iald rfl rfl (by decide) rfl (by decide) (q_tn (z := 0) rfl ?_)
      refine q_iast rfl rfl (by decide) rfl (by decide) ?_
      refine q_icc6 (z := 3) rfl rfl rfl rfl rfl ?_
      refine q_goto rfl ?_
      refine q_iload rfl rfl rfl ?_
      refine q_bipush rfl rfl ?_
      refine q_icge rfl rfl (fun c129 => absurd c129 (by decide)) (fun c129 => ?_)
      refine q_aload_n rfl rfl rfl ?_
      refine q_getf rfl rfl (by decide) rfl rfl ?_
      refine q_bipush rfl rfl ?_
      refine q_iload rfl rfl rfl ?_
      refine q_imul rfl rfl (q_tn (z := 0) rfl ?_)
      refine q_iload rfl rfl rfl ?_
      refine q_iadd rfl rfl (q_tn (z := 3) rfl ?_)
      refine q_aload_n rfl rfl rfl ?_
      refine q_getf rfl rfl (by decide) rfl rfl ?_
      refine q_iload rfl rfl rfl ?_
      refine q_iald rfl rfl (by decide) rfl (by decide) (q_tn (z := 0) rfl ?_)
      refine q_iast rfl rfl (by decide) rfl (by decide) ?_
      refine q_icc6 (z := 4) rfl rfl rfl rfl rfl ?_
      refine q_goto rfl ?_
      refine q_iload rfl rfl rfl ?_
      refine q_bipush rfl rfl ?_
      refine q_icge rfl rfl (fun c130 => absurd c130 (by decide)) (fun c130 => ?_)
      refine q_aload_n rfl rfl rfl ?_
      refine q_getf rfl rfl (by decide) rfl rfl ?_
      refine q_bipush rfl rfl ?_
      refine q_iload rfl rfl rfl ?_
      refine q_imul rfl rfl (q_tn (z := 0) rfl ?_)
      refine q_iload rfl rfl rfl ?_
      refine q_iadd rfl rfl (q_tn (z := 4) rfl ?_)
      refine q_aload_n rfl rfl rfl ?_
      refine q_getf rfl rfl (by decide) rfl rfl ?_
      refine q_iload rfl rfl rfl ?_
      refine q_iald rfl rfl (by decide) rfl (by decide) (q_tn (z := 0) rfl ?_)
      refine q_iast rfl rfl (by decide) rfl (by decide) ?_
      refine q_icc6 (z := 5) rfl rfl rfl rfl rfl ?_
      refine q_goto rfl ?_
      refine q_iload rfl rfl rfl ?_
      refine q_bipush rfl rfl ?_
      refine q_icge rfl rfl (fun c131 => absurd c131 (by decide)) (fun c131 => ?_)
      refine q_aload_n rfl rfl rfl ?_
      refine q_getf rfl rfl (by decide) rfl rfl ?_
      refine q_bipush rfl rfl ?_
      refine q_iload rfl rfl rfl ?_
      refine q_imul rfl rfl (q_tn (z := 0) rfl ?_)
      refine q_iload rfl rfl rfl ?_
      refine q_iadd rfl rfl (q_tn (z := 5) rfl ?_)
      refine q_aload_n rfl rfl rfl ?_
      refine q_getf rfl rfl (by decide) rfl rfl ?_
      refine q_iload rfl rfl rfl ?_
      refine q_iald rfl rfl (by decide) rfl (by decide) (q_tn (z := 0) rfl ?_)
      refine q_iast rfl rfl (by decide) rfl (by decide) ?_
      refine q_icc6 (z := 6) rfl rfl rfl rfl rfl ?_
      refine q_goto rfl ?_
      refine q_iload rfl rfl rfl ?_
      refine q_bipush rfl rfl ?_
      refine q_icge rfl rfl (fun c132 => absurd c132 (by decide)) (fun c132 => ?_)
      refine q_aload_n rfl rfl rfl ?_
      refine q_getf rfl rfl (by decide) rfl rfl ?_
      refine q_bipush rfl rfl ?_
      refine q_iload rfl rfl rfl ?_
      refine q_imul rfl rfl (q_tn (z := 0) rfl ?_)
      refine q_iload rfl rfl rfl ?_
      refine q_iadd rfl rfl (q_tn (z := 6) rfl ?_)
      refine q_aload_n rfl rfl rfl ?_
      refine q_getf rfl rfl (by decide) rfl rfl ?_
      refine q_iload rfl rfl rfl ?_
      refine q_iald rfl rfl (by decide) rfl (by decide) (q_tn (z := 0) rfl ?_)
      refine q_iast rfl rfl (by decide) rfl (by decide) ?_
      refine q_icc6 (z := 7) rfl rfl rfl rfl rfl ?_
      refine q_goto rfl ?_
      refine q_iload rfl rfl rfl ?_
      refine q_bipush rfl rfl ?_
      refine q_icge rfl rfl (fun c133 => absurd c133 (by decide)) (fun c133 => ?_)
      refine q_aload_n rfl rfl rfl ?_
      refine q_getf rfl rfl (by decide) rfl rfl ?_
      refine q_bipush rfl rfl ?_
      refine q_iload rfl rfl rfl ?_
      refine q_imul rfl rfl (q_tn (z := 0) rfl ?_)
      refine q_iload rfl rfl rfl ?_
      refine q_iadd rfl rfl (q_tn (z := 7) rfl ?_)
      refine q_aload_n rfl rfl rfl ?_
      refine q_getf rfl rfl (by decide) rfl rfl ?_
      refine q_iload rfl rfl rfl ?_
      refine q_iald rfl rfl (by decide) rfl (by decide) (q_tn (z := 0) rfl ?_)
      refine q_iast rfl rfl (by decide) rfl (by decide) ?_
      refine q_icc6 (z := 8) rfl rfl rfl rfl rfl ?_
      refine q_goto rfl ?_
      refine q_iload rfl rfl rfl ?_
      refine q_bipush rfl rfl ?_
      refine q_icge rfl rfl (fun c134 => absurd c134 (by decide)) (fun c134 => ?_)
      refine q_aload_n rfl rfl rfl ?_
      refine q_getf rfl rfl (by decide) rfl rfl ?_
      refine q_bipush rfl rfl ?_
      refine q_iload rfl rfl rfl ?_
      refine q_imul rfl rfl (q_tn (z := 0) rfl ?_)
      refine q_iload rfl rfl rfl ?_
      refine q_iadd rfl rfl (q_tn (z := 8) rfl ?_)
      refine q_aload_n rfl rfl rfl ?_
      refine q_getf rfl rfl (by decide) rfl rfl ?_
      refine q_iload rfl rfl rfl ?_
      refine q_iald rfl rfl (by decide) rfl (by decide) (q_tn (z := 0) rfl ?_)
      refine q_iast rfl rfl (by decide) rfl (by decide) ?_
      refine q_icc6 (z := 9) rfl rfl rfl rfl rfl ?_
      refine q_goto rfl ?_
      refine q_iload rfl rfl rfl ?_
      refine q_bipush rfl rfl ?_
      refine q_icge rfl rfl (fun c135 => absurd c135 (by decide)) (fun c135 => ?_)
      refine q_aload_n rfl rfl rfl ?_
      refine q_getf rfl rfl (by decide) rfl rfl ?_
      refine q_bipush rfl rfl ?_
      refine q_iload rfl rfl rfl ?_
      refine q_imul rfl rfl (q_tn (z := 0) rfl ?_)
      refine q_iload rfl rfl rfl ?_
      refine q_iadd rfl rfl (q_tn (z := 9) rfl ?_)
      refine q_aload_n rfl rfl rfl ?_
      refine q_getf rfl rfl (by decide) rfl rfl ?_
      refine q_iload rfl rfl rfl ?_
      refine q_iald rfl rfl (by decide) rfl (by decide) (q_tn (z := 0) rfl ?_)
      refine q_iast rfl rfl (by decide) rfl (by decide) ?_
      refine q_icc6 (z := 10) rfl rfl rfl rfl rfl ?_
      refine q_goto rfl ?_
      refine q_iload rfl rfl rfl ?_
      refine q_bipush rfl rfl ?_
      refine q_icge rfl rfl (fun c136 => absurd c136 (by decide)) (fun c136 => ?_)
      refine q_aload_n rfl rfl rfl ?_
      refine q_getf rfl rfl (by decide) rfl rfl ?_
      refine q_bipush rfl rfl ?_
      refine q_iload rfl rfl rfl ?_
      refine q_imul rfl rfl (q_tn (z := 0) rfl ?_)
      refine q_iload rfl rfl rfl ?_
      refine q_iadd rfl rfl (q_tn (z := 10) rfl ?_)
      refine q_aload_n rfl rfl rfl ?_
      refine q_getf rfl rfl (by decide) rfl rfl ?_
      refine q_iload rfl rfl rfl ?_
      refine q_iald rfl rfl (by decide) rfl (by decide) (q_tn (z := 0) rfl ?_)
      refine q_iast rfl rfl (by decide) rfl (by decide) ?_
      refine q_icc6 (z := 11) rfl rfl rfl rfl rfl ?_
      refine q_goto rfl ?_
      refine q_iload rfl rfl rfl ?_
      refine q_bipush rfl rfl ?_
      refine q_icge rfl rfl (fun c137 => absurd c137 (by decide)) (fun c137 => ?_)
      refine q_aload_n rfl rfl rfl ?_
      refine q_getf rfl rfl (by decide) rfl rfl ?_
      refine q_bipush rfl rfl ?_
      refine q_iload rfl rfl rfl ?_
      refine q_imul rfl rfl (q_tn (z := 0) rfl ?_)
      refine q_iload rfl rfl rfl ?_
      refine q_iadd rfl rfl (q_tn (z := 11) rfl ?_)
      refine q_aload_n rfl rfl rfl ?_
      refine q_getf rfl rfl (by decide) rfl rfl ?_
      refine q_iload rfl rfl rfl ?_
      refine q_iald rfl rfl (by decide) rfl (by decide) (q_tn (z := 0) rfl ?_)
      refine q_iast rfl rfl (by decide) rfl (by decide) ?_
      refine q_icc6 (z := 12) rfl rfl rfl rfl rfl ?_
      refine q_goto rfl ?_
      refine q_iload rfl rfl rfl ?_
      refine q_bipush rfl rfl ?_
      refine q_icge rfl rfl (fun c138 => absurd c138 (by decide)) (fun c138 => ?_)
      refine q_aload_n rfl rfl rfl ?_
      refine q_getf rfl rfl (by decide) rfl rfl ?_
      refine q_bipush rfl rfl ?_
      refine q_iload rfl rfl rfl ?_
      refine q_imul rfl rfl (q_tn (z := 0) rfl ?_)
      refine q_iload rfl rfl rfl ?_
      refine q_iadd rfl rfl (q_tn (z := 12) rfl ?_)
      refine q_aload_n rfl rfl rfl ?_
      refine q_getf rfl rfl (by decide) rfl rfl ?_
      refine q_iload rfl rfl rfl ?_
      refine q_iald rfl rfl (by decide) rfl (by decide) (q_tn (z := 0) rfl ?_)
      refine q_iast rfl rfl (by decide) rfl (by decide) ?_
      refine q_icc6 (z := 13) rfl rfl rfl rfl rfl ?_
      refine q_goto rfl ?_
      refine q_iload rfl rfl rfl ?_
      refine q_bipush rfl rfl ?_
      refine q_icge rfl rfl (fun c139 => absurd c139 (by decide)) (fun c139 => ?_)
      refine q_aload_n rfl rfl rfl ?_
      refine q_getf rfl rfl (by decide) rfl rfl ?_
      refine q_bipush rfl rfl ?_
      refine q_iload rfl rfl rfl ?_
      refine q_imul rfl rfl (q_tn (z := 0) rfl ?_)
      refine q_iload rfl rfl rfl ?_
      refine q_iadd rfl rfl (q_tn (z := 13) rfl ?_)
      refine q_aload_n rfl rfl rfl ?_
      refine q_getf rfl rfl (by decide) rfl rfl ?_
      refine q_iload rfl rfl rfl ?_
      refine q_iald rfl rfl (by decide) rfl (by decide) (q_tn (z := 0) rfl ?_)
      refine q_iast rfl rfl (by decide) rfl (by decide) ?_
      refine q_icc6 (z := 14) rfl rfl rfl rfl rfl ?_
      refine q_goto rfl ?_
      refine q_iload rfl rfl rfl ?_
      refine q_bipush rfl rfl ?_
      refine q_icge rfl rfl (fun c140 => absurd c140 (by decide)) (fun c140 => ?_)
      refine q_aload_n rfl rfl rfl ?_
      refine q_getf rfl rfl (by decide) rfl rfl ?_
      refine q_bipush rfl rfl ?_
      refine q_iload rfl rfl rfl ?_
      refine q_imul rfl rfl (q_tn (z := 0) rfl ?_)
      refine q_iload rfl rfl rfl ?_
      refine q_iadd rfl rfl (q_tn (z := 14) rfl ?_)
      refine q_aload_n rfl rfl rfl ?_
      refine q_getf rfl rfl (by decide) rfl rfl ?_
      refine q_iload rfl rfl rfl ?_
      refine q_iald rfl rfl (by decide) rfl (by decide) (q_tn (z := 0) rfl ?_)
      refine q_iast rfl rfl (by decide) rfl (by decide) ?_
      refine q_icc6 (z := 15) rfl rfl rfl rfl rfl ?_
      refine q_goto rfl ?_
      refine q_iload rfl rfl rfl ?_
      refine q_bipush rfl rfl ?_
      refine q_icge rfl rfl (fun c141 => absurd c141 (by decide)) (fun c141 => ?_)
      refine q_aload_n rfl rfl rfl ?_
      refine q_getf rfl rfl (by decide) rfl rfl ?_
      refine q_bipush rfl rfl ?_
      refine q_iload rfl rfl rfl ?_
      refine q_imul rfl rfl (q_tn (z := 0) rfl ?_)
      refine q_iload rfl rfl rfl ?_
      refine q_iadd rfl rfl (q_tn (z := 15) rfl ?_)
      refine q_aload_n rfl rfl rfl ?_
      refine q_getf rfl rfl (by decide) rfl rfl ?_
      refine q_iload rfl rfl rfl ?_
      refine q_iald rfl rfl (by decide) rfl (by decide) (q_tn (z := 0) rfl ?_)
      refine q_iast rfl rfl (by decide) rfl (by decide) ?_
      refine q_icc6 (z := 16) rfl rfl rfl rfl rfl ?_
      refine q_goto rfl ?_
      refine q_iload rfl rfl rfl ?_
      refine q_bipush rfl rfl ?_
      refine q_icge rfl rfl (fun c142 => absurd c142 (by decide)) (fun c142 => ?_)
      refine q_aload_n rfl rfl rfl ?_
      refine q_getf rfl rfl (by decide) rfl rfl ?_
      refine q_bipush rfl rfl ?_
      refine q_iload rfl rfl rfl ?_
      refine q_imul rfl rfl (q_tn (z := 0) rfl ?_)
      refine q_iload rfl rfl rfl ?_
      refine q_iadd rfl rfl (q_tn (z := 16) rfl ?_)
      refine q_aload_n rfl rfl rfl ?_
      refine q_getf rfl rfl (by decide) rfl rfl ?_
      refine q_iload rfl rfl rfl ?_
      refine q_iald rfl rfl (by decide) rfl (by decide) (q_tn (z := 0) rfl ?_)
      refine q_iast rfl rfl (by decide) rfl (by decide) ?_
      refine q_icc6 (z := 17) rfl rfl rfl rfl rfl ?_
      refine q_goto rfl ?_
      refine q_iload rfl rfl rfl ?_
      refine q_bipush rfl rfl ?_
      refine q_icge rfl rfl (fun c143 => absurd c143 (by decide)) (fun c143 => ?_)
      refine q_aload_n rfl rfl rfl ?_
      refine q_getf rfl rfl (by decide) rfl rfl ?_
      refine q_bipush rfl rfl ?_
      refine q_iload rfl rfl rfl ?_
      refine q_imul rfl rfl (q_tn (z := 0) rfl ?_)
      refine q_iload rfl rfl rfl ?_
      refine q_iadd rfl rfl (q_tn (z := 17) rfl ?_)
      refine q_aload_n rfl rfl rfl ?_
      refine q_getf rfl rfl (by decide) rfl rfl ?_
      refine q_iload rfl rfl rfl ?_
      refine q_iald rfl rfl (by decide) rfl (by decide) (q_tn (z := 0) rfl ?_)
      refine q_iast rfl rfl (by decide) rfl (by decide) ?_
      refine q_icc6 (z := 18) rfl rfl rfl rfl rfl ?_
      refine q_goto rfl ?_
      refine q_iload rfl rfl rfl ?_
      refine q_bipush rfl rfl ?_
      refine q_icge rfl rfl (fun c144 => absurd c144 (by decide)) (fun c144 => ?_)
      refine q_aload_n rfl rfl rfl ?_
      refine q_getf rfl rfl (by decide) rfl rfl ?_
      refine q_bipush rfl rfl ?_
      refine q_iload rfl rfl rfl ?_
      refine q_imul rfl rfl (q_tn (z := 0) rfl ?_)
      refine q_iload rfl rfl rfl ?_
      refine q_iadd rfl rfl (q_tn (z := 18) rfl ?_)
      refine q_aload_n rfl rfl rfl ?_
      refine q_getf rfl rfl (by decide) rfl rfl ?_
      refine q_iload rfl rfl rfl ?_
      refine q_iald rfl rfl (by decide) rfl (by decide) (q_tn (z := 0) rfl ?_)
      refine q_iast rfl rfl (by decide) rfl (by decide) ?_
      refine q_icc6 (z := 19) rfl rfl rfl rfl rfl ?_
      refine q_goto rfl ?_
      refine q_iload rfl rfl rfl ?_
      refine q_bipush rfl rfl ?_
      refine q_icge rfl rfl (fun c145 => absurd c145 (by decide)) (fun c145 => ?_)
      refine q_aload_n rfl rfl rfl ?_
      refine q_getf rfl rfl (by decide) rfl rfl ?_
      refine q_bipush rfl rfl ?_
      refine q_iload rfl rfl rfl ?_
      refine q_imul rfl rfl (q_tn (z := 0) rfl ?_)
      refine q_iload rfl rfl rfl ?_
      refine q_iadd rfl rfl (q_tn (z := 19) rfl ?_)
      refine q_aload_n rfl rfl rfl ?_
      refine q_getf rfl rfl (by decide) rfl rfl ?_
      refine q_iload rfl rfl rfl ?_
      refine q_iald rfl rfl (by decide) rfl (by decide) (q_tn (z := 0) rfl ?_)
      refine q_iast rfl rfl (by decide) rfl (by decide) ?_
      refine q_icc6 (z := 20) rfl rfl rfl rfl rfl ?_
      refine q_goto rfl ?_
      refine q_iload rfl rfl rfl ?_
      refine q_bipush rfl rfl ?_
      refine q_icge rfl rfl (fun c146 => ?_) (fun c146 => absurd (by decide) c146)
      refine q_aload_n rfl rfl rfl ?_
      refine q_getf rfl rfl (by decide) rfl rfl ?_
      refine q_iload rfl rfl rfl ?_
      refine q_iload_n rfl rfl rfl ?_
      refine q_iast rfl rfl (by decide) (FW_56 S hW) (by decide) ?_
      refine q_aload_n rfl rfl rfl ?_
      refine q_getf rfl rfl (by decide) rfl rfl ?_
      refine q_iload rfl rfl rfl ?_
      refine q_iload_n rfl rfl rfl ?_
      refine q_iast rfl rfl (by decide) (FW_57 S hW) (by decide) ?_
      refine q_aload_n rfl rfl rfl ?_
      refine q_iload_n rfl rfl rfl ?_
      refine q_nV1 rfl rfl (Or.inl rfl) rfl rfl rfl (by decide) rfl ⟨rfl, rfl⟩ rfl ?_
      change PQ _ _ _ mm_X12_rest 0 [.ref 46, .int 0, pm_un, pm_un] [] _ _ 0 0 _
      refine q_bipush rfl rfl ?_
      refine q_ist2n rfl rfl rfl rfl ?_
      refine q_iconst rfl rfl ?_
      refine q_ist3n rfl rfl rfl rfl ?_
      refine q_iload_n rfl rfl rfl ?_
      refine q_bipush rfl rfl ?_
      refine q_icge rfl rfl (fun c147 => absurd c147 (by decide)) (fun c147 => ?_)
      refine q_bipush rfl rfl ?_
      refine q_iload_n rfl rfl rfl ?_
      refine q_imul rfl rfl (q_tn (z := 527) rfl ?_)
      refine q_aload_n rfl rfl rfl ?_
      refine q_getf rfl rfl (by decide) rfl rfl ?_
      refine q_iload_n rfl rfl rfl ?_
      refine q_iald rfl rfl (by decide) rfl (by decide) (q_tn (z := 10) rfl ?_)
      refine q_iadd rfl rfl (q_tn (z := 537) rfl ?_)
      refine q_ist2n rfl rfl rfl rfl ?_
      refine q_icc3 (z := 1) rfl rfl rfl rfl rfl ?_
      refine q_goto rfl ?_
      refine q_iload_n rfl rfl rfl ?_
      refine q_bipush rfl rfl ?_
      refine q_icge rfl rfl (fun c148 => absurd c148 (by decide)) (fun c148 => ?_)
      refine q_bipush rfl rfl ?_
      refine q_iload_n rfl rfl rfl ?_
      refine q_imul rfl rfl (q_tn (z := 16647) rfl ?_)
      refine q_aload_n rfl rfl rfl ?_
      refine q_getf rfl rfl (by decide) rfl rfl ?_
      refine q_iload_n rfl rfl rfl ?_
      refine q_iald rfl rfl (by decide) rfl (by decide) (q_tn (z := 0) rfl ?_)
      refine q_iadd rfl rfl (q_tn (z := 16647) rfl ?_)
      refine q_ist2n rfl rfl rfl rfl ?_
      refine q_icc3 (z := 2) rfl rfl rfl rfl rfl ?_
      refine q_goto rfl ?_
      refine q_iload_n rfl rfl rfl ?_
      refine q_bipush rfl rfl ?_
      refine q_icge rfl rfl (fun c149 => absurd c149 (by decide)) (fun c149 => ?_)
      refine q_bipush rfl rfl ?_
      refine q_iload_n rfl rfl rfl ?_
      refine q_imul rfl rfl (q_tn (z := 516057) rfl ?_)
      refine q_aload_n rfl rfl rfl ?_
      refine q_getf rfl rfl (by decide) rfl rfl ?_
      refine q_iload_n rfl rfl rfl ?_
      refine q_iald rfl rfl (by decide) rfl (by decide) (q_tn (z := 0) rfl ?_)
      refine q_iadd rfl rfl (q_tn (z := 516057) rfl ?_)
      refine q_ist2n rfl rfl rfl rfl ?_
      refine q_icc3 (z := 3) rfl rfl rfl rfl rfl ?_
      refine q_goto rfl ?_
      refine q_iload_n rfl rfl rfl ?_
      refine q_bipush rfl rfl ?_
      refine q_icge rfl rfl (fun c150 => absurd c150 (by decide)) (fun c150 => ?_)
      refine q_bipush rfl rfl ?_
      refine q_iload_n rfl rfl rfl ?_
      refine q_imul rfl rfl (q_tn (z := 15997767) rfl ?_)
      refine q_aload_n rfl rfl rfl ?_
      refine q_getf rfl rfl (by decide) rfl rfl ?_
      refine q_iload_n rfl rfl rfl ?_
      refine q_iald rfl rfl (by decide) rfl (by decide) (q_tn (z := 0) rfl ?_)
      refine q_iadd rfl rfl (q_tn (z := 15997767) rfl ?_)
      refine q_ist2n rfl rfl rfl rfl ?_
      refine q_icc3 (z := 4) rfl rfl rfl rfl rfl ?_
      refine q_goto rfl ?_
      refine q_iload_n rfl rfl rfl ?_
      refine q_bipush rfl rfl ?_
      refine q_icge rfl rfl (fun c151 => absurd c151 (by decide)) (fun c151 => ?_)
      refine q_bipush rfl rfl ?_
      refine q_iload_n rfl rfl rfl ?_
      refine q_imul rfl rfl (q_tn (z := 495930777) rfl ?_)
      refine q_aload_n rfl rfl rfl ?_
      refine q_getf rfl rfl (by decide) rfl rfl ?_
      refine q_iload_n rfl rfl rfl ?_
      refine q_iald rfl rfl (by decide) rfl (by decide) (q_tn (z := 0) rfl ?_)
      refine q_iadd rfl rfl (q_tn (z := 495930777) rfl ?_)
      refine q_ist2n rfl rfl rfl rfl ?_
      refine q_icc3 (z := 5) rfl rfl rfl rfl rfl ?_
      refine q_goto rfl ?_
      refine q_iload_n rfl rfl rfl ?_
      refine q_bipush rfl rfl ?_
      refine q_icge rfl rfl (fun c152 => absurd c152 (by decide)) (fun c152 => ?_)
      refine q_bipush rfl rfl ?_
      refine q_iload_n rfl rfl rfl ?_
      refine q_imul rfl rfl (q_tn (z := (-1806015097)) rfl ?_)
      refine q_aload_n rfl rfl rfl ?_
      refine q_getf rfl rfl (by decide) rfl rfl ?_
      refine q_iload_n rfl rfl rfl ?_
      refine q_iald rfl rfl (by decide) rfl (by decide) (q_tn (z := 0) rfl ?_)
      refine q_iadd rfl rfl (q_tn (z := (-1806015097)) rfl ?_)
      refine q_ist2n rfl rfl rfl rfl ?_
      refine q_icc3 (z := 6) rfl rfl rfl rfl rfl ?_
      refine q_goto rfl ?_
      refine q_iload_n rfl rfl rfl ?_
      refine q_bipush rfl rfl ?_
      refine q_icge rfl rfl (fun c153 => absurd c153 (by decide)) (fun c153 => ?_)
      refine q_bipush rfl rfl ?_
      refine q_iload_n rfl rfl rfl ?_
      refine q_imul rfl rfl (q_tn (z := (-151893159)) rfl ?_)
      refine q_aload_n rfl rfl rfl ?_
      refine q_getf rfl rfl (by decide) rfl rfl ?_
      refine q_iload_n rfl rfl rfl ?_
      refine q_iald rfl rfl (by decide) rfl (by decide) (q_tn (z := 0) rfl ?_)
      refine q_iadd rfl rfl (q_tn (z := (-151893159)) rfl ?_)
      refine q_ist2n rfl rfl rfl rfl ?_
      refine q_icc3 (z := 7) rfl rfl rfl rfl rfl ?_
      refine q_goto rfl ?_
      refine q_iload_n rfl rfl rfl ?_
      refine q_bipush rfl rfl ?_
      refine q_icge rfl rfl (fun c154 => absurd c154 (by decide)) (fun c154 => ?_)
      refine q_bipush rfl rfl ?_
      refine q_iload_n rfl rfl rfl ?_
      refine q_imul rfl rfl (q_tn (z := (-413720633)) rfl ?_)
      refine q_aload_n rfl rfl rfl ?_
      refine q_getf rfl rfl (by decide) rfl rfl ?_
      refine q_iload_n rfl rfl rfl ?_
      refine q_iald rfl rfl (by decide) rfl (by decide) (q_tn (z := 0) rfl ?_)
      refine q_iadd rfl rfl (q_tn (z := (-413720633)) rfl ?_)
      refine q_ist2n rfl rfl rfl rfl ?_
      refine q_icc3 (z := 8) rfl rfl rfl rfl rfl ?_
      refine q_goto rfl ?_
      refine q_iload_n rfl rfl rfl ?_
      refine q_bipush rfl rfl ?_
      refine q_icge rfl rfl (fun c155 => absurd c155 (by decide)) (fun c155 => ?_)
      refine q_bipush rfl rfl ?_
      refine q_iload_n rfl rfl rfl ?_
      refine q_imul rfl rfl (q_tn (z := 59562265) rfl ?_)
      refine q_aload_n rfl rfl rfl ?_
      refine q_getf rfl rfl (by decide) rfl rfl ?_
      refine q_iload_n rfl rfl rfl ?_
      refine q_iald rfl rfl (by decide) rfl (by decide) (q_tn (z := 0) rfl ?_)
      refine q_iadd rfl rfl (q_tn (z := 59562265) rfl ?_)
      refine q_ist2n rfl rfl rfl rfl ?_
      refine q_icc3 (z := 9) rfl rfl rfl rfl rfl ?_
      refine q_goto rfl ?_
      refine q_iload_n rfl rfl rfl ?_
      refine q_bipush rfl rfl ?_
      refine q_icge rfl rfl (fun c156 => absurd c156 (by decide)) (fun c156 => ?_)
      refine q_bipush rfl rfl ?_
      refine q_iload_n rfl rfl rfl ?_
      refine q_imul rfl rfl (q_tn (z := 1846430215) rfl ?_)
      refine q_aload_n rfl rfl rfl ?_
      refine q_getf rfl rfl (by decide) rfl rfl ?_
      refine q_iload_n rfl rfl rfl ?_
      refine q_iald rfl rfl (by decide) rfl (by decide) (q_tn (z := 0) rfl ?_)
      refine q_iadd rfl rfl (q_tn (z := 1846430215) rfl ?_)
      refine q_ist2n rfl rfl rfl rfl ?_
      refine q_icc3 (z := 10) rfl rfl rfl rfl rfl ?_
      refine q_goto rfl ?_
      refine q_iload_n rfl rfl rfl ?_
      refine q_bipush rfl rfl ?_
      refine q_icge rfl rfl (fun c157 => absurd c157 (by decide)) (fun c157 => ?_)
      refine q_bipush rfl rfl ?_
      refine q_iload_n rfl rfl rfl ?_
      refine q_imul rfl rfl (q_tn (z := 1404761817) rfl ?_)
      refine q_aload_n rfl rfl rfl ?_
      refine q_getf rfl rfl (by decide) rfl rfl ?_
      refine q_iload_n rfl rfl rfl ?_
      refine q_iald rfl rfl (by decide) rfl (by decide) (q_tn (z := 0) rfl ?_)
      refine q_iadd rfl rfl (q_tn (z := 1404761817) rfl ?_)
      refine q_ist2n rfl rfl rfl rfl ?_
      refine q_icc3 (z := 11) rfl rfl rfl rfl rfl ?_
      refine q_goto rfl ?_
      refine q_iload_n rfl rfl rfl ?_
      refine q_bipush rfl rfl ?_
      refine q_icge rfl rfl (fun c158 => absurd c158 (by decide)) (fun c158 => ?_)
      refine q_bipush rfl rfl ?_
      refine q_iload_n rfl rfl rfl ?_
      refine q_imul rfl rfl (q_tn (z := 597943367) rfl ?_)
      refine q_aload_n rfl rfl rfl ?_
      refine q_getf rfl rfl (by decide) rfl rfl ?_
      refine q_iload_n rfl rfl rfl ?_
      refine q_iald rfl rfl (by decide) rfl (by decide) (q_tn (z := 0) rfl ?_)
      refine q_iadd rfl rfl (q_tn (z := 597943367) rfl ?_)
      refine q_ist2n rfl rfl rfl rfl ?_
      refine q_icc3 (z := 12) rfl rfl rfl rfl rfl ?_
      refine q_goto rfl ?_
      refine q_iload_n rfl rfl rfl ?_
      refine q_bipush rfl rfl ?_
      refine q_icge rfl rfl (fun c159 => absurd c159 (by decide)) (fun c159 => ?_)
      refine q_bipush rfl rfl ?_
      refine q_iload_n rfl rfl rfl ?_
      refine q_imul rfl rfl (q_tn (z := 1356375193) rfl ?_)
      refine q_aload_n rfl rfl rfl ?_
      as_aux_lemma =>
        refine q_getf rfl rfl (by decide) rfl rfl ?_
        refine q_iload_n rfl rfl rfl ?_
        refine q_iald rfl rfl (by decide) rfl (by decide) (q_tn (z := 0) rfl ?_)
        refine q_iadd rfl rfl (q_tn (z := 1356375193) rfl ?_)
        refine q_ist2n rfl rfl rfl rfl ?_
        refine q_icc3 (z := 13) rfl rfl rfl rfl rfl ?_
        refine q_goto rfl ?_
        refine q_iload_n rfl rfl rfl ?_
        refine q_bipush rfl rfl ?_
        refine q_icge rfl rfl (fun c160 => absurd c160 (by decide)) (fun c160 => ?_)
        refine q_bipush rfl rfl ?_
        refine q_iload_n rfl rfl rfl ?_
        refine q_imul rfl rfl (q_tn (z := (-902041977)) rfl ?_)
        refine q_aload_n rfl rfl rfl ?_
        refine q_getf rfl rfl (by decide) rfl rfl ?_
        refine q_iload_n rfl rfl rfl ?_
        refine q_iald rfl rfl (by decide) rfl (by decide) (q_tn (z := 0) rfl ?_)
        refine q_iadd rfl rfl (q_tn (z := (-902041977)) rfl ?_)
        refine q_ist2n rfl rfl rfl rfl ?_
        refine q_icc3 (z := 14) rfl rfl rfl rfl rfl ?_
        refine q_goto rfl ?_
        refine q_iload_n rfl rfl rfl ?_
        refine q_bipush rfl rfl ?_
        refine q_icge rfl rfl (fun c161 => absurd c161 (by decide)) (fun c161 => ?_)
        refine q_bipush rfl rfl ?_
        refine q_iload_n rfl rfl rfl ?_
        refine q_imul rfl rfl (q_tn (z := 2101469785) rfl ?_)
        refine q_aload_n rfl rfl rfl ?_
        refine q_getf rfl rfl (by decide) rfl rfl ?_
        refine q_iload_n rfl rfl rfl ?_
        refine q_iald rfl rfl (by decide) rfl (by decide) (q_tn (z := 0) rfl ?_)
        refine q_iadd rfl rfl (q_tn (z := 2101469785) rfl ?_)
        refine q_ist2n rfl rfl rfl rfl ?_
        refine q_icc3 (z := 15) rfl rfl rfl rfl rfl ?_
        refine q_goto rfl ?_
        refine q_iload_n rfl rfl rfl ?_
        refine q_bipush rfl rfl ?_
        refine q_icge rfl rfl (fun c162 => absurd c162 (by decide)) (fun c162 => ?_)
        refine q_bipush rfl rfl ?_
        refine q_iload_n rfl rfl rfl ?_
        refine q_imul rfl rfl (q_tn (z := 721053895) rfl ?_)
        refine q_aload_n rfl rfl rfl ?_
        refine q_getf rfl rfl (by decide) rfl rfl ?_
        refine q_iload_n rfl rfl rfl ?_
        refine q_iald rfl rfl (by decide) rfl (by decide) (q_tn (z := 0) rfl ?_)
        refine q_iadd rfl rfl (q_tn (z := 721053895) rfl ?_)
        refine q_ist2n rfl rfl rfl rfl ?_
        refine q_icc3 (z := 16) rfl rfl rfl rfl rfl ?_
        refine q_goto rfl ?_
        refine q_iload_n rfl rfl rfl ?_
        refine q_bipush rfl rfl ?_
        refine q_icge rfl rfl (fun c163 => absurd c163 (by decide)) (fun c163 => ?_)
        refine q_bipush rfl rfl ?_
        refine q_iload_n rfl rfl rfl ?_
        refine q_imul rfl rfl (q_tn (z := 877834265) rfl ?_)
        refine q_aload_n rfl rfl rfl ?_
        refine q_getf rfl rfl (by decide) rfl rfl ?_
        refine q_iload_n rfl rfl rfl ?_
        refine q_iald rfl rfl (by decide) rfl (by decide) (q_tn (z := 0) rfl ?_)
        refine q_iadd rfl rfl (q_tn (z := 877834265) rfl ?_)
        refine q_ist2n rfl rfl rfl rfl ?_
        refine q_icc3 (z := 17) rfl rfl rfl rfl rfl ?_
        refine q_goto rfl ?_
        refine q_iload_n rfl rfl rfl ?_
        refine q_bipush rfl rfl ?_
        refine q_icge rfl rfl (fun c164 => absurd c164 (by decide)) (fun c164 => ?_)
        refine q_bipush rfl rfl ?_
        refine q_iload_n rfl rfl rfl ?_
        refine q_imul rfl rfl (q_tn (z := 1443058439) rfl ?_)
        refine q_aload_n rfl rfl rfl ?_
        refine q_getf rfl rfl (by decide) rfl rfl ?_
        refine q_iload_n rfl rfl rfl ?_
        refine q_iald rfl rfl (by decide) rfl (by decide) (q_tn (z := 0) rfl ?_)
        refine q_iadd rfl rfl (q_tn (z := 1443058439) rfl ?_)
        refine q_ist2n rfl rfl rfl rfl ?_
        refine q_icc3 (z := 18) rfl rfl rfl rfl rfl ?_
        refine q_goto rfl ?_
        refine q_iload_n rfl rfl rfl ?_
        refine q_bipush rfl rfl ?_
        refine q_icge rfl rfl (fun c165 => absurd c165 (by decide)) (fun c165 => ?_)
        refine q_bipush rfl rfl ?_
        refine q_iload_n rfl rfl rfl ?_
        refine q_imul rfl rfl (q_tn (z := 1785138649) rfl ?_)
        refine q_aload_n rfl rfl rfl ?_
        refine q_getf rfl rfl (by decide) rfl rfl ?_
        refine q_iload_n rfl rfl rfl ?_
        refine q_iald rfl rfl (by decide) rfl (by decide) (q_tn (z := 0) rfl ?_)
        refine q_iadd rfl rfl (q_tn (z := 1785138649) rfl ?_)
        refine q_ist2n rfl rfl rfl rfl ?_
        refine q_icc3 (z := 19) rfl rfl rfl rfl rfl ?_
        refine q_goto rfl ?_
        refine q_iload_n rfl rfl rfl ?_
        refine q_bipush rfl rfl ?_
        refine q_icge rfl rfl (fun c166 => absurd c166 (by decide)) (fun c166 => ?_)
        refine q_bipush rfl rfl ?_
        refine q_iload_n rfl rfl rfl ?_
        refine q_imul rfl rfl (q_tn (z := (-495276729)) rfl ?_)
        refine q_aload_n rfl rfl rfl ?_
        refine q_getf rfl rfl (by decide) rfl rfl ?_
        refine q_iload_n rfl rfl rfl ?_
        refine q_iald rfl rfl (by decide) rfl (by decide) (q_tn (z := 0) rfl ?_)
        refine q_iadd rfl rfl (q_tn (z := (-495276729)) rfl ?_)
        refine q_ist2n rfl rfl rfl rfl ?_
        refine q_icc3 (z := 20) rfl rfl rfl rfl rfl ?_
        refine q_goto rfl ?_
        refine q_iload_n rfl rfl rfl ?_
        refine q_bipush rfl rfl ?_
        refine q_icge rfl rfl (fun c167 => ?_) (fun c167 => absurd (by decide) c167)
        refine q_sipush rfl rfl ?_
        refine q_iload_n rfl rfl rfl ?_
        refine q_imul rfl rfl (q_tn (z := 0) rfl ?_)
        refine q_iload_n rfl rfl rfl ?_
        refine q_iload_n rfl rfl rfl ?_
        refine q_bipush rfl rfl ?_
        refine q_iushr rfl rfl (q_tn (z := 463829) rfl ?_)
        refine q_ixor rfl rfl (q_tn (z := (-495075694)) rfl ?_)
        refine q_sipush rfl rfl ?_
        refine q_irem rfl rfl (by decide) (q_tn (z := (-366)) rfl ?_)
        refine q_iload_n rfl rfl rfl ?_
        refine q_iload_n rfl rfl rfl ?_
        refine q_bipush rfl rfl ?_
        refine q_iushr rfl rfl (q_tn (z := 463829) rfl ?_)
        refine q_ixor rfl rfl (q_tn (z := (-495075694)) rfl ?_)
        refine q_sipush rfl rfl ?_
        refine q_irem rfl rfl (by decide) (q_tn (z := (-366)) rfl ?_)
        refine q_ifge rfl rfl (fun c168 => absurd c168 (by decide)) (fun c168 => ?_)
        refine q_iconst rfl rfl ?_
        refine q_goto rfl ?_
        refine q_imul rfl rfl (q_tn (z := 366) rfl ?_)
        refine q_iadd rfl rfl (q_tn (z := 366) rfl ?_)
        refine q_iret rfl rfl trivial ?_
        refine ⟨_, rfl, ?_⟩
        refine q_ist6 rfl rfl rfl rfl ?_
        refine q_aload_n rfl rfl rfl ?_
        refine q_getf rfl rfl (by decide) rfl rfl ?_
        refine q_iload rfl rfl rfl ?_
        refine q_aload_n rfl rfl rfl ?_
        refine q_getf rfl rfl (by decide) rfl rfl ?_
        refine q_iload rfl rfl rfl ?_
        refine q_iald rfl rfl (by decide) rfl (by decide) (q_tn (z := (-1)) rfl ?_)
        refine q_iast rfl rfl (by decide) (FW_58 S hW) (by decide) ?_
        refine q_aload_n rfl rfl rfl ?_
        refine q_getf rfl rfl (by decide) rfl rfl ?_
        refine q_iload rfl rfl rfl ?_
        refine q_iload rfl rfl rfl ?_
        refine q_iast rfl rfl (by decide) rfl (by decide) ?_
        refine q_aload_n rfl rfl rfl ?_
        refine q_getf rfl rfl (by decide) rfl rfl ?_
        refine q_iload_n rfl rfl rfl ?_
        refine q_dup2 rfl rfl ?_
        refine q_iald rfl rfl (by decide) rfl (by decide) (q_tn (z := 0) rfl ?_)
        refine q_iconst rfl rfl ?_
        refine q_iadd rfl rfl (q_tn (z := 1) rfl ?_)
        refine q_iast rfl rfl (by decide) rfl (by decide) ?_
        refine q_iload rfl rfl rfl ?_
        refine q_iret rfl rfl trivial ?_
        refine ⟨_, rfl, ?_⟩
        refine q_ist3n rfl rfl rfl rfl ?_
        refine q_iconst rfl rfl ?_
        refine q_ist4 rfl rfl rfl rfl ?_
        refine q_iload rfl rfl rfl ?_
        refine q_aload_n rfl rfl rfl ?_
        refine q_getf rfl rfl (by decide) rfl rfl ?_
        refine q_iload_n rfl rfl rfl ?_
        refine q_iald rfl rfl (by decide) rfl (by decide) (q_tn (z := 1) rfl ?_)
        refine q_icge rfl rfl (fun c169 => absurd c169 (by decide)) (fun c169 => ?_)
        refine q_iconst rfl rfl ?_
        refine q_ist5 rfl rfl rfl rfl ?_
        refine q_iload rfl rfl rfl ?_
        refine q_iconst rfl rfl ?_
        refine q_icge rfl rfl (fun c170 => absurd c170 (by decide)) (fun c170 => ?_)
        refine q_iconst rfl rfl ?_
        refine q_sipush rfl rfl ?_
        refine q_iload_n rfl rfl rfl ?_
        refine q_imul rfl rfl (q_tn (z := 0) rfl ?_)
        refine q_iload rfl rfl rfl ?_
        refine q_iadd rfl rfl (q_tn (z := 0) rfl ?_)
        refine q_imul rfl rfl (q_tn (z := 0) rfl ?_)
        refine q_iload rfl rfl rfl ?_
        refine q_iadd rfl rfl (q_tn (z := 0) rfl ?_)
        refine q_ist6 rfl rfl rfl rfl ?_
        refine q_aload_n rfl rfl rfl ?_
        refine q_getf rfl rfl (by decide) rfl rfl ?_
        refine q_iload rfl rfl rfl ?_
        refine q_iconst rfl rfl ?_
        refine q_iast rfl rfl (by decide) (FW_59 S hW) (by decide) ?_
        refine q_aload_n rfl rfl rfl ?_
        refine q_iload_n rfl rfl rfl ?_
        refine q_iload rfl rfl rfl ?_
        refine q_cV2v rfl rfl (Or.inl rfl) rfl rfl rfl (by decide) rfl ⟨rfl, rfl⟩ rfl (fun K' hK' => l_sa (R := 0) (by decide) rfl (by decide) rfl rfl rfl rfl rfl hK') ?_
        refine q_iload rfl rfl rfl ?_
        refine q_aload_n rfl rfl rfl ?_
        refine q_getf rfl rfl (by decide) rfl rfl ?_
        refine q_icge rfl rfl (fun c171 => absurd c171 (by decide)) (fun c171 => ?_)
        refine q_aload_n rfl rfl rfl ?_
        refine q_iload rfl rfl rfl ?_
        refine q_iload_n rfl rfl rfl ?_
        refine q_nV2 rfl rfl (Or.inl rfl) rfl rfl rfl (by decide) rfl ⟨rfl, rfl⟩ rfl ?_
        change PQ _ _ _ mm_X12_maySteps 0 [.ref 46, .int 0, .int 0, pm_un, pm_un, pm_un] [] _ _ 0 0 _
        refine q_aload_n rfl rfl rfl ?_
        refine q_iload_n rfl rfl rfl ?_
        refine q_iload_n rfl rfl rfl ?_
        refine q_nV2 rfl rfl (Or.inl rfl) rfl rfl rfl (by decide) rfl ⟨rfl, rfl⟩ rfl ?_
        change PQ _ _ _ mm_X12_canStep 0 [.ref 46, .int 0, .int 0, pm_un] [] _ _ 0 0 _
        refine q_aload_n rfl rfl rfl ?_
        refine q_iload_n rfl rfl rfl ?_
        refine q_nV1 rfl rfl (Or.inl rfl) rfl rfl rfl (by decide) rfl ⟨rfl, rfl⟩ rfl ?_
        change PQ _ _ _ mm_X12_isOver 0 [.ref 46, .int 0] [] _ _ 0 0 _
        refine q_aload_n rfl rfl rfl ?_
        refine q_getf rfl rfl (by decide) rfl rfl ?_
        refine q_iconst rfl rfl ?_
        refine q_iload_n rfl rfl rfl ?_
        refine q_imul rfl rfl (q_tn (z := 0) rfl ?_)
        refine q_iald rfl rfl (by decide) rfl (by decide) (q_tn (z := 10) rfl ?_)
        refine q_bipush rfl rfl ?_
        refine q_iclt rfl rfl (fun c172 => absurd c172 (by decide)) (fun c172 => ?_)
        refine q_iconst rfl rfl ?_
        refine q_goto rfl ?_
        refine q_iret rfl rfl rfl ?_
        refine ⟨_, rfl, ?_⟩
        refine q_ifeq rfl rfl (fun c173 => absurd c173 (by decide)) (fun c173 => ?_)
        refine q_iconst rfl rfl ?_
        refine q_iret rfl rfl rfl ?_
        refine ⟨_, rfl, ?_⟩
        refine q_ifne rfl rfl (fun c174 => ?_) (fun c174 => absurd (by decide) c174)
        refine q_iconst rfl rfl ?_
        refine q_iret rfl rfl rfl ?_
        refine ⟨_, rfl, ?_⟩
        refine q_ifne rfl rfl (fun c175 => ?_) (fun c175 => absurd (by decide) c175)
        refine q_goto rfl ?_
        refine q_icc5 (z := 1) rfl rfl rfl rfl rfl ?_
        refine q_goto rfl ?_
        refine q_iload rfl rfl rfl ?_
        refine q_iconst rfl rfl ?_
        refine q_icge rfl rfl (fun c176 => absurd c176 (by decide)) (fun c176 => ?_)
        refine q_iconst rfl rfl ?_
        refine q_sipush rfl rfl ?_
        refine q_iload_n rfl rfl rfl ?_
        refine q_imul rfl rfl (q_tn (z := 0) rfl ?_)
        refine q_iload rfl rfl rfl ?_
        refine q_iadd rfl rfl (q_tn (z := 0) rfl ?_)
        refine q_imul rfl rfl (q_tn (z := 0) rfl ?_)
        refine q_iload rfl rfl rfl ?_
        refine q_iadd rfl rfl (q_tn (z := 1) rfl ?_)
        refine q_ist6 rfl rfl rfl rfl ?_
        refine q_aload_n rfl rfl rfl ?_
        refine q_getf rfl rfl (by decide) rfl rfl ?_
        refine q_iload rfl rfl rfl ?_
        refine q_iconst rfl rfl ?_
        refine q_iast rfl rfl (by decide) rfl (by decide) ?_
        refine q_aload_n rfl rfl rfl ?_
        refine q_iload_n rfl rfl rfl ?_
        refine q_iload rfl rfl rfl ?_
        refine q_cV2v rfl rfl (Or.inl rfl) rfl rfl rfl (by decide) rfl ⟨rfl, rfl⟩ rfl (fun K' hK' => l_sa (R := 0) (by decide) rfl (by decide) rfl rfl rfl rfl rfl hK') ?_
        refine q_iload rfl rfl rfl ?_
        refine q_aload_n rfl rfl rfl ?_
        refine q_getf rfl rfl (by decide) rfl rfl ?_
        refine q_icge rfl rfl (fun c177 => ?_) (fun c177 => absurd (by decide) c177)
        refine q_icc5 (z := 2) rfl rfl rfl rfl rfl ?_
        refine q_goto rfl ?_
        refine q_iload rfl rfl rfl ?_
        refine q_iconst rfl rfl ?_
        refine q_icge rfl rfl (fun c178 => absurd c178 (by decide)) (fun c178 => ?_)
        refine q_iconst rfl rfl ?_
        refine q_sipush rfl rfl ?_
        refine q_iload_n rfl rfl rfl ?_
        refine q_imul rfl rfl (q_tn (z := 0) rfl ?_)
        refine q_iload rfl rfl rfl ?_
        refine q_iadd rfl rfl (q_tn (z := 0) rfl ?_)
        refine q_imul rfl rfl (q_tn (z := 0) rfl ?_)
        refine q_iload rfl rfl rfl ?_
        refine q_iadd rfl rfl (q_tn (z := 2) rfl ?_)
        refine q_ist6 rfl rfl rfl rfl ?_
        refine q_aload_n rfl rfl rfl ?_
        refine q_getf rfl rfl (by decide) rfl rfl ?_
        refine q_iload rfl rfl rfl ?_
        refine q_iconst rfl rfl ?_
        refine q_iast rfl rfl (by decide) rfl (by decide) ?_
        refine q_aload_n rfl rfl rfl ?_
        refine q_iload_n rfl rfl rfl ?_
        refine q_iload rfl rfl rfl ?_
        refine q_cV2v rfl rfl (Or.inl rfl) rfl rfl rfl (by decide) rfl ⟨rfl, rfl⟩ rfl (fun K' hK' => l_sa (R := 0) (by decide) rfl (by decide) rfl rfl rfl rfl rfl hK') ?_
        refine q_iload rfl rfl rfl ?_
        refine q_aload_n rfl rfl rfl ?_
        refine q_getf rfl rfl (by decide) rfl rfl ?_
        refine q_icge rfl rfl (fun c179 => ?_) (fun c179 => absurd (by decide) c179)
        refine q_icc5 (z := 3) rfl rfl rfl rfl rfl ?_
        refine q_goto rfl ?_
        refine q_iload rfl rfl rfl ?_
        refine q_iconst rfl rfl ?_
        refine q_icge rfl rfl (fun c180 => ?_) (fun c180 => absurd (by decide) c180)
        refine q_icc4 (z := 1) rfl rfl rfl rfl rfl ?_
        refine q_goto rfl ?_
        refine q_iload rfl rfl rfl ?_
        refine q_aload_n rfl rfl rfl ?_
        refine q_getf rfl rfl (by decide) rfl rfl ?_
        refine q_iload_n rfl rfl rfl ?_
        refine q_iald rfl rfl (by decide) rfl (by decide) (q_tn (z := 1) rfl ?_)
        refine q_icge rfl rfl (fun c181 => ?_) (fun c181 => absurd (by decide) c181)
        refine q_iconst rfl rfl ?_
        refine q_iret rfl rfl rfl ?_
        refine ⟨_, rfl, ?_⟩
        refine q_ifeq rfl rfl (fun c182 => absurd c182 (by decide)) (fun c182 => ?_)
        refine q_iconst rfl rfl ?_
        refine q_goto rfl ?_
        refine q_iast rfl rfl (by decide) (FW_62 S hW) (by decide) ?_
        refine q_iload_n rfl rfl rfl ?_
        refine q_ifne rfl rfl (fun c183 => ?_) (fun c183 => absurd (by decide) c183)
        refine q_aload_n rfl rfl rfl ?_
        refine q_iconst rfl rfl ?_
        refine q_putf rfl rfl (by decide) rfl (by decide) rfl rfl ?_
        refine q_aload_n rfl rfl rfl ?_
        refine q_getf rfl rfl (by decide) rfl rfl ?_
        refine q_iload_n rfl rfl rfl ?_
        refine q_aload_n rfl rfl rfl ?_
        refine q_getf rfl rfl (by decide) rfl rfl ?_
        refine q_iload_n rfl rfl rfl ?_
        refine q_iald rfl rfl (by decide) rfl (by decide) (q_tn (z := 1) rfl ?_)
        refine q_iast rfl rfl (by decide) (FW_63 S hW) (by decide) ?_
        refine q_iconst rfl rfl ?_
        refine q_ist3n rfl rfl rfl rfl ?_
        refine q_iload_n rfl rfl rfl ?_
        refine q_iconst rfl rfl ?_
        refine q_icge rfl rfl (fun c184 => absurd c184 (by decide)) (fun c184 => ?_)
        refine q_aload_n rfl rfl rfl ?_
        refine q_getf rfl rfl (by decide) rfl rfl ?_
        refine q_iconst rfl rfl ?_
        refine q_iload_n rfl rfl rfl ?_
        refine q_imul rfl rfl (q_tn (z := 0) rfl ?_)
        refine q_iload_n rfl rfl rfl ?_
        refine q_iadd rfl rfl (q_tn (z := 0) rfl ?_)
        refine q_iconst rfl rfl ?_
        refine q_iast rfl rfl (by decide) (FW_64 S hW) (by decide) ?_
        refine q_icc3 (z := 1) rfl rfl rfl rfl rfl ?_
        refine q_goto rfl ?_
        refine q_iload_n rfl rfl rfl ?_
        refine q_iconst rfl rfl ?_
        refine q_icge rfl rfl (fun c185 => absurd c185 (by decide)) (fun c185 => ?_)
        refine q_aload_n rfl rfl rfl ?_
        refine q_getf rfl rfl (by decide) rfl rfl ?_
        refine q_iconst rfl rfl ?_
        refine q_iload_n rfl rfl rfl ?_
        refine q_imul rfl rfl (q_tn (z := 0) rfl ?_)
        refine q_iload_n rfl rfl rfl ?_
        refine q_iadd rfl rfl (q_tn (z := 1) rfl ?_)
        refine q_iconst rfl rfl ?_
        refine q_iast rfl rfl (by decide) rfl (by decide) ?_
        refine q_icc3 (z := 2) rfl rfl rfl rfl rfl ?_
        refine q_goto rfl ?_
        refine q_iload_n rfl rfl rfl ?_
        refine q_iconst rfl rfl ?_
        refine q_icge rfl rfl (fun c186 => absurd c186 (by decide)) (fun c186 => ?_)
        refine q_aload_n rfl rfl rfl ?_
        refine q_getf rfl rfl (by decide) rfl rfl ?_
        refine q_iconst rfl rfl ?_
        refine q_iload_n rfl rfl rfl ?_
        refine q_imul rfl rfl (q_tn (z := 0) rfl ?_)
        refine q_iload_n rfl rfl rfl ?_
        refine q_iadd rfl rfl (q_tn (z := 2) rfl ?_)
        refine q_iconst rfl rfl ?_
        refine q_iast rfl rfl (by decide) rfl (by decide) ?_
        refine q_icc3 (z := 3) rfl rfl rfl rfl rfl ?_
        refine q_goto rfl ?_
        refine q_iload_n rfl rfl rfl ?_
        refine q_iconst rfl rfl ?_
        refine q_icge rfl rfl (fun c187 => absurd c187 (by decide)) (fun c187 => ?_)
        refine q_aload_n rfl rfl rfl ?_
        refine q_getf rfl rfl (by decide) rfl rfl ?_
        refine q_iconst rfl rfl ?_
        refine q_iload_n rfl rfl rfl ?_
        refine q_imul rfl rfl (q_tn (z := 0) rfl ?_)
        refine q_iload_n rfl rfl rfl ?_
        refine q_iadd rfl rfl (q_tn (z := 3) rfl ?_)
        refine q_iconst rfl rfl ?_
        refine q_iast rfl rfl (by decide) rfl (by decide) ?_
        refine q_icc3 (z := 4) rfl rfl rfl rfl rfl ?_
        refine q_goto rfl ?_
        refine q_iload_n rfl rfl rfl ?_
        refine q_iconst rfl rfl ?_
        refine q_icge rfl rfl (fun c188 => ?_) (fun c188 => absurd (by decide) c188)
        refine q_iconst rfl rfl ?_
        refine q_ist3n rfl rfl rfl rfl ?_
        refine q_iload_n rfl rfl rfl ?_
        refine q_aload_n rfl rfl rfl ?_
        refine q_getf rfl rfl (by decide) rfl rfl ?_
        refine q_iload_n rfl rfl rfl ?_
        refine q_iald rfl rfl (by decide) rfl (by decide) (q_tn (z := 1) rfl ?_)
        refine q_icge rfl rfl (fun c189 => absurd c189 (by decide)) (fun c189 => ?_)
        refine q_aload_n rfl rfl rfl ?_
        refine q_iload_n rfl rfl rfl ?_
        refine q_iload_n rfl rfl rfl ?_
        refine q_cV2v rfl rfl (Or.inl rfl) rfl rfl rfl (by decide) rfl ⟨rfl, rfl⟩ rfl (fun K' hK' => l_sa (R := 0) (by decide) rfl (by decide) rfl rfl rfl rfl rfl hK') ?_
        refine q_aload_n rfl rfl rfl ?_
        refine q_nV0 rfl rfl (Or.inl rfl) rfl rfl rfl (by decide) rfl ⟨rfl, rfl⟩ rfl ?_
        change PQ _ _ _ mm_X12_isEnd 0 [.ref 46, pm_un, pm_un] [] _ _ 0 0 _
        refine q_iconst rfl rfl ?_
        refine q_ist1n rfl rfl rfl rfl ?_
        refine q_iconst rfl rfl ?_
        refine q_ist2n rfl rfl rfl rfl ?_
        refine q_iload_n rfl rfl rfl ?_
        refine q_aload_n rfl rfl rfl ?_
        refine q_getf rfl rfl (by decide) rfl rfl ?_
        refine q_icge rfl rfl (fun c190 => absurd c190 (by decide)) (fun c190 => ?_)
        refine q_iload_n rfl rfl rfl ?_
        refine q_ifeq rfl rfl (fun c191 => absurd c191 (by decide)) (fun c191 => ?_)
        refine q_aload_n rfl rfl rfl ?_
        refine q_iload_n rfl rfl rfl ?_
        refine q_nV1 rfl rfl (Or.inl rfl) rfl rfl rfl (by decide) rfl ⟨rfl, rfl⟩ rfl ?_
        change PQ _ _ _ mm_X12_isOver 0 [.ref 46, .int 0] [] _ _ 0 0 _
        refine q_aload_n rfl rfl rfl ?_
        refine q_getf rfl rfl (by decide) rfl rfl ?_
        refine q_iconst rfl rfl ?_
        refine q_iload_n rfl rfl rfl ?_
        refine q_imul rfl rfl (q_tn (z := 0) rfl ?_)
        refine q_iald rfl rfl (by decide) rfl (by decide) (q_tn (z := 10) rfl ?_)
        refine q_bipush rfl rfl ?_
        refine q_iclt rfl rfl (fun c192 => absurd c192 (by decide)) (fun c192 => ?_)
        refine q_iconst rfl rfl ?_
        refine q_goto rfl ?_
        refine q_iret rfl rfl rfl ?_
        refine ⟨_, rfl, ?_⟩
        refine q_ifeq rfl rfl (fun c193 => absurd c193 (by decide)) (fun c193 => ?_)
        refine q_iconst rfl rfl ?_
        refine q_goto rfl ?_
        refine q_ist1n rfl rfl rfl rfl ?_
        refine q_icc2 (z := 1) rfl rfl rfl rfl rfl ?_
        refine q_goto rfl ?_
        refine q_iload_n rfl rfl rfl ?_
        refine q_aload_n rfl rfl rfl ?_
        refine q_getf rfl rfl (by decide) rfl rfl ?_
        refine q_icge rfl rfl (fun c194 => ?_) (fun c194 => absurd (by decide) c194)
        refine q_iload_n rfl rfl rfl ?_
        refine q_iret rfl rfl rfl ?_
        refine ⟨_, rfl, ?_⟩
        refine q_ifne rfl rfl (fun c195 => absurd c195 (by decide)) (fun c195 => ?_)
        refine q_iconst rfl rfl ?_
        refine q_ist4 rfl rfl rfl rfl ?_
        refine q_iload rfl rfl rfl ?_
        refine q_iconst rfl rfl ?_
        refine q_icge rfl rfl (fun c196 => absurd c196 (by decide)) (fun c196 => ?_)
        refine q_aload_n rfl rfl rfl ?_
        refine q_getf rfl rfl (by decide) rfl rfl ?_
        refine q_iconst rfl rfl ?_
        refine q_iload_n rfl rfl rfl ?_
        refine q_imul rfl rfl (q_tn (z := 0) rfl ?_)
        refine q_iload rfl rfl rfl ?_
        refine q_iadd rfl rfl (q_tn (z := 0) rfl ?_)
        refine q_dup2 rfl rfl ?_
        refine q_iald rfl rfl (by decide) rfl (by decide) (q_tn (z := 0) rfl ?_)
        refine q_iconst rfl rfl ?_
        refine q_aload_n rfl rfl rfl ?_
        refine q_getf rfl rfl (by decide) rfl rfl ?_
        refine q_bipush rfl rfl ?_
        refine q_iload rfl rfl rfl ?_
        refine q_iadd rfl rfl (q_tn (z := 12) rfl ?_)
        refine q_iald rfl rfl (by decide) rfl (by decide) (q_tn (z := 0) rfl ?_)
        refine q_ishl rfl rfl (q_tn (z := 1) rfl ?_)
        refine q_ior rfl rfl (q_tn (z := 1) rfl ?_)
        refine q_iast rfl rfl (by decide) rfl (by decide) ?_
        refine q_icc4 (z := 1) rfl rfl rfl rfl rfl ?_
        refine q_goto rfl ?_
        refine q_iload rfl rfl rfl ?_
        refine q_iconst rfl rfl ?_
        refine q_icge rfl rfl (fun c197 => absurd c197 (by decide)) (fun c197 => ?_)
        refine q_aload_n rfl rfl rfl ?_
        refine q_getf rfl rfl (by decide) rfl rfl ?_
        refine q_iconst rfl rfl ?_
        refine q_iload_n rfl rfl rfl ?_
        refine q_imul rfl rfl (q_tn (z := 0) rfl ?_)
        refine q_iload rfl rfl rfl ?_
        refine q_iadd rfl rfl (q_tn (z := 1) rfl ?_)
        refine q_dup2 rfl rfl ?_
        refine q_iald rfl rfl (by decide) rfl (by decide) (q_tn (z := 0) rfl ?_)
        refine q_iconst rfl rfl ?_
        refine q_aload_n rfl rfl rfl ?_
        refine q_getf rfl rfl (by decide) rfl rfl ?_
        refine q_bipush rfl rfl ?_
        refine q_iload rfl rfl rfl ?_
        refine q_iadd rfl rfl (q_tn (z := 13) rfl ?_)
        refine q_iald rfl rfl (by decide) rfl (by decide) (q_tn (z := 0) rfl ?_)
        refine q_ishl rfl rfl (q_tn (z := 1) rfl ?_)
        refine q_ior rfl rfl (q_tn (z := 1) rfl ?_)
        refine q_iast rfl rfl (by decide) rfl (by decide) ?_
        refine q_icc4 (z := 2) rfl rfl rfl rfl rfl ?_
        refine q_goto rfl ?_
        refine q_iload rfl rfl rfl ?_
        refine q_iconst rfl rfl ?_
        refine q_icge rfl rfl (fun c198 => absurd c198 (by decide)) (fun c198 => ?_)
        refine q_aload_n rfl rfl rfl ?_
        refine q_getf rfl rfl (by decide) rfl rfl ?_
        refine q_iconst rfl rfl ?_
        refine q_iload_n rfl rfl rfl ?_
        refine q_imul rfl rfl (q_tn (z := 0) rfl ?_)
        refine q_iload rfl rfl rfl ?_
        refine q_iadd rfl rfl (q_tn (z := 2) rfl ?_)
        refine q_dup2 rfl rfl ?_
        refine q_iald rfl rfl (by decide) rfl (by decide) (q_tn (z := 0) rfl ?_)
        refine q_iconst rfl rfl ?_
        refine q_aload_n rfl rfl rfl ?_
        refine q_getf rfl rfl (by decide) rfl rfl ?_
        refine q_bipush rfl rfl ?_
        refine q_iload rfl rfl rfl ?_
        refine q_iadd rfl rfl (q_tn (z := 14) rfl ?_)
        refine q_iald rfl rfl (by decide) rfl (by decide) (q_tn (z := 0) rfl ?_)
        refine q_ishl rfl rfl (q_tn (z := 1) rfl ?_)
        refine q_ior rfl rfl (q_tn (z := 1) rfl ?_)
        refine q_iast rfl rfl (by decide) rfl (by decide) ?_
        refine q_icc4 (z := 3) rfl rfl rfl rfl rfl ?_
        refine q_goto rfl ?_
        refine q_iload rfl rfl rfl ?_
        refine q_iconst rfl rfl ?_
        refine q_icge rfl rfl (fun c199 => absurd c199 (by decide)) (fun c199 => ?_)
        refine q_aload_n rfl rfl rfl ?_
        refine q_getf rfl rfl (by decide) rfl rfl ?_
        refine q_iconst rfl rfl ?_
        refine q_iload_n rfl rfl rfl ?_
        refine q_imul rfl rfl (q_tn (z := 0) rfl ?_)
        refine q_iload rfl rfl rfl ?_
        refine q_iadd rfl rfl (q_tn (z := 3) rfl ?_)
        refine q_dup2 rfl rfl ?_
        refine q_iald rfl rfl (by decide) rfl (by decide) (q_tn (z := 0) rfl ?_)
        refine q_iconst rfl rfl ?_
        refine q_aload_n rfl rfl rfl ?_
        refine q_getf rfl rfl (by decide) rfl rfl ?_
        refine q_bipush rfl rfl ?_
        refine q_iload rfl rfl rfl ?_
        refine q_iadd rfl rfl (q_tn (z := 15) rfl ?_)
        refine q_iald rfl rfl (by decide) rfl (by decide) (q_tn (z := 0) rfl ?_)
        refine q_ishl rfl rfl (q_tn (z := 1) rfl ?_)
        refine q_ior rfl rfl (q_tn (z := 1) rfl ?_)
        refine q_iast rfl rfl (by decide) rfl (by decide) ?_
        refine q_icc4 (z := 4) rfl rfl rfl rfl rfl ?_
        refine q_goto rfl ?_
        refine q_iload rfl rfl rfl ?_
        refine q_iconst rfl rfl ?_
        refine q_icge rfl rfl (fun c200 => ?_) (fun c200 => absurd (by decide) c200)
        refine q_icc3 (z := 1) rfl rfl rfl rfl rfl ?_
        refine q_goto rfl ?_
        refine q_iload_n rfl rfl rfl ?_
        refine q_aload_n rfl rfl rfl ?_
        refine q_getf rfl rfl (by decide) rfl rfl ?_
        refine q_iload_n rfl rfl rfl ?_
        refine q_iald rfl rfl (by decide) rfl (by decide) (q_tn (z := 1) rfl ?_)
        refine q_icge rfl rfl (fun c201 => ?_) (fun c201 => absurd (by decide) c201)
        refine q_aload_n rfl rfl rfl ?_
        refine q_getf rfl rfl (by decide) rfl rfl ?_
        refine q_iload_n rfl rfl rfl ?_
        refine q_iald rfl rfl (by decide) rfl (by decide) (q_tn (z := 1) rfl ?_)
        refine q_iconst rfl rfl ?_
        refine q_icne rfl rfl (fun c202 => absurd c202 (by decide)) (fun c202 => ?_)
        refine q_iconst rfl rfl ?_
        refine q_iret rfl rfl rfl ?_
        refine ⟨_, rfl, ?_⟩
        refine q_ifeq rfl rfl (fun c203 => ?_) (fun c203 => absurd (by decide) c203)
        refine q_iload_n rfl rfl rfl ?_
        refine q_aload_n rfl rfl rfl ?_
        refine q_getf rfl rfl (by decide) rfl rfl ?_
        refine q_iconst rfl rfl ?_
        refine q_iald rfl rfl (by decide) rfl (by decide) (q_tn (z := 1) rfl ?_)
        refine q_iclt rfl rfl (fun c204 => ?_) (fun c204 => absurd (by decide) c204)
        refine q_iconst rfl rfl ?_
        refine q_iret rfl rfl trivial ?_
        refine ⟨_, rfl, ?_⟩
        refine q_ifeq rfl rfl (fun c205 => ?_) (fun c205 => absurd (by decide) c205)
        refine q_aload_n rfl rfl rfl ?_
        refine q_iload_n rfl rfl rfl ?_
        refine q_nV1 rfl rfl (Or.inl rfl) rfl rfl rfl (by decide) rfl ⟨rfl, rfl⟩ rfl ?_
        change PQ _ _ _ mm_X12_length 0 [.ref 46, .int 0, pm_un, pm_un] [] _ _ 0 0 _
        refine q_iconst rfl rfl ?_
        refine q_ist2n rfl rfl rfl rfl ?_
        refine q_iload_n rfl rfl rfl ?_
        refine q_ist3n rfl rfl rfl rfl ?_
        refine q_iload_n rfl rfl rfl ?_
        refine q_ifle rfl rfl (fun c206 => ?_) (fun c206 => absurd (by decide) c206)
        refine q_iload_n rfl rfl rfl ?_
        refine q_iret rfl rfl trivial ?_
        refine ⟨_, rfl, ?_⟩
        refine q_iret rfl rfl trivial ?_
        refine ⟨_, rfl, ?_⟩
        refine q_iceq rfl rfl (fun c207 => ?_) (fun c207 => absurd (by decide) c207)
        refine q_icc4 (z := 6) rfl rfl rfl rfl rfl ?_
        refine q_goto rfl ?_
        refine q_iload rfl rfl rfl ?_
        refine q_aload_nF rfl rfl rfl ?_
        refine q_alenX (x := 6) rfl rfl rfl ?_
        refine q_bipush rfl rfl ?_
        refine q_isub rfl rfl (q_tn (z := 0) rfl ?_)
        refine q_icgt rfl rfl (fun c208 => ?_) (fun c208 => absurd (by decide) c208)
        refine q_iconst rfl rfl ?_
        refine q_iret rfl rfl rfl ?_
        exact hK _ _
    · refine q_iconst rfl rfl ?_
      refine q_goto rfl ?_
      refine q_iret rfl rfl trivial ?_
      refine ⟨_, rfl, ?_⟩
      refine q_ist2n rfl rfl rfl rfl ?_
      refine q_iload_n rfl rfl rfl ?_
      refine q_ifeq rfl rfl (fun c209 => absurd c209 (by decide)) (fun c209 => ?_)
      refine q_iload_n rfl rfl rfl ?_
      refine q_goto rfl ?_
      refine q_iret rfl rfl trivial ?_
      refine ⟨_, rfl, ?_⟩
      refine q_aload_n rfl rfl rfl ?_
      refine q_aload_nF rfl rfl rfl ?_
      refine q_iload rfl rfl rfl ?_
      refine q_iconst rfl rfl ?_
      refine q_iadd rfl rfl (q_tn (z := 1) rfl ?_)
      refine q_ialdX (x := x1) rfl rfl rfl hx1 ?_
      refine q_nV1 rfl rfl (Or.inl rfl) rfl rfl rfl (by decide) (FW_46 S hW) ⟨rfl, rfl⟩ rfl ?_
      change PQ _ _ _ mm_X12_way 0 [.ref 46, .int x1] [] _ _ 0 0 _
      refine q_aload_n rfl rfl rfl ?_
      refine q_iload_n rfl rfl rfl ?_
      refine q_nV1 rfl rfl (Or.inl rfl) rfl rfl rfl (by decide) (FW_46 S hW) ⟨rfl, rfl⟩ rfl ?_
      change PQ _ _ _ mm_X12_lacks 0 [.ref 46, .int x1] [] _ _ 0 0 _
      refine q_iload_n rfl rfl rfl ?_
      refine q_ifge rfl rfl (fun c210 => ?_) (fun c210 => absurd (i_ge_t (i_nlt c68) rfl) c210)
      refine q_aload_n rfl rfl rfl ?_
      refine q_iconst rfl rfl ?_
      refine q_nV1 rfl rfl (Or.inl rfl) rfl rfl rfl (by decide) (FW_46 S hW) ⟨rfl, rfl⟩ rfl ?_
      change PQ _ _ _ mm_X12_isSpent 0 [.ref 46, .int 0, pm_un, pm_un, pm_un] [] _ _ 0 0 _
      refine q_iload_n rfl rfl rfl ?_
      refine q_ifne rfl rfl (fun c211 => ?_) (fun c211 => absurd (by decide) c211)
      refine q_iconst rfl rfl ?_
      refine q_goto rfl ?_
      refine q_ist2n rfl rfl rfl rfl ?_
      refine q_aload_n rfl rfl rfl ?_
      refine q_iconst rfl rfl ?_
      refine q_putf rfl rfl (by decide) (FW_46 S hW) (by decide) rfl trivial ?_
      refine q_aload_n rfl rfl rfl ?_
      refine q_getf rfl rfl (by decide) rfl rfl ?_
      refine q_iload_n rfl rfl rfl ?_
      refine q_iald rfl rfl (by decide) (FW_62 S hW) (by decide) (q_tn (z := 0) rfl ?_)
      refine q_ifeq rfl rfl (fun c212 => ?_) (fun c212 => absurd (by decide) c212)
      refine q_aload_n rfl rfl rfl ?_
      refine q_getf rfl rfl (by decide) rfl rfl ?_
      refine q_iload_n rfl rfl rfl ?_
      refine q_aload_n rfl rfl rfl ?_
      refine q_iload_n rfl rfl rfl ?_
      refine q_iload_n rfl rfl rfl ?_
      refine q_nV2 rfl rfl (Or.inl rfl) rfl rfl rfl (by decide) rfl ⟨rfl, rfl⟩ rfl ?_
      change PQ _ _ _ mm_X12_explore 0 [.ref 46, .int 0, .int 0, pm_un, pm_un, pm_un, pm_un, pm_un] [] _ _ 0 0 _
      refine q_iconst rfl rfl ?_
      refine q_ist3n rfl rfl rfl rfl ?_
      refine l_net (R := 0) (by decide) rfl (by decide) rfl rfl (FW_61 S hW) ?_
      refine q_aload_n rfl rfl rfl ?_
      refine q_getf rfl rfl (by decide) rfl rfl ?_
      refine q_iload_n rfl rfl rfl ?_
      refine q_iconst rfl rfl ?_
      refine q_iast rfl rfl (by decide) (FW_60 S hW) (by decide) ?_
      refine q_aload_n rfl rfl rfl ?_
      refine q_nV0v rfl rfl (Or.inl rfl) rfl rfl rfl (by decide) rfl ⟨rfl, rfl⟩ rfl ?_
      change PQ _ _ _ mm_X12_firstState 0 [.ref 46, pm_un] [] _ _ 0 0 _
      refine q_iconst rfl rfl ?_
      refine q_ist1n rfl rfl rfl rfl ?_
      refine q_iload_n rfl rfl rfl ?_
      refine q_bipush rfl rfl ?_
      refine q_icge rfl rfl (fun c213 => absurd c213 (by decide)) (fun c213 => ?_)
      refine q_aload_n rfl rfl rfl ?_
      refine q_getf rfl rfl (by decide) rfl rfl ?_
      refine q_iload_n rfl rfl rfl ?_
      refine q_iconst rfl rfl ?_
      refine q_iast rfl rfl (by decide) (FW_52 S hW) (by decide) ?_
      refine q_icc1 (z := 1) rfl rfl rfl rfl rfl ?_
      refine q_goto rfl ?_
      refine q_iload_n rfl rfl rfl ?_
      refine q_bipush rfl rfl ?_
      refine q_icge rfl rfl (fun c214 => absurd c214 (by decide)) (fun c214 => ?_)
      refine q_aload_n rfl rfl rfl ?_
      refine q_getf rfl rfl (by decide) rfl rfl ?_
      refine q_iload_n rfl rfl rfl ?_
      refine q_iconst rfl rfl ?_
      refine q_iast rfl rfl (by decide) rfl (by decide) ?_
      refine q_icc1 (z := 2) rfl rfl rfl rfl rfl ?_
      refine q_goto rfl ?_
      refine q_iload_n rfl rfl rfl ?_
      refine q_bipush rfl rfl ?_
      refine q_icge rfl rfl (fun c215 => absurd c215 (by decide)) (fun c215 => ?_)
      refine q_aload_n rfl rfl rfl ?_
      refine q_getf rfl rfl (by decide) rfl rfl ?_
      refine q_iload_n rfl rfl rfl ?_
      refine q_iconst rfl rfl ?_
      refine q_iast rfl rfl (by decide) rfl (by decide) ?_
      refine q_icc1 (z := 3) rfl rfl rfl rfl rfl ?_
      refine q_goto rfl ?_
      refine q_iload_n rfl rfl rfl ?_
      refine q_bipush rfl rfl ?_
      refine q_icge rfl rfl (fun c216 => absurd c216 (by decide)) (fun c216 => ?_)
      refine q_aload_n rfl rfl rfl ?_
      refine q_getf rfl rfl (by decide) rfl rfl ?_
      refine q_iload_n rfl rfl rfl ?_
      refine q_iconst rfl rfl ?_
      refine q_iast rfl rfl (by decide) rfl (by decide) ?_
      refine q_icc1 (z := 4) rfl rfl rfl rfl rfl ?_
      refine q_goto rfl ?_
      refine q_iload_n rfl rfl rfl ?_
      refine q_bipush rfl rfl ?_
      refine q_icge rfl rfl (fun c217 => absurd c217 (by decide)) (fun c217 => ?_)
      refine q_aload_n rfl rfl rfl ?_
      refine q_getf rfl rfl (by decide) rfl rfl ?_
      refine q_iload_n rfl rfl rfl ?_
      refine q_iconst rfl rfl ?_
      refine q_iast rfl rfl (by decide) rfl (by decide) ?_
      refine q_icc1 (z := 5) rfl rfl rfl rfl rfl ?_
      refine q_goto rfl ?_
      refine q_iload_n rfl rfl rfl ?_
      refine q_bipush rfl rfl ?_
      refine q_icge rfl rfl (fun c218 => absurd c218 (by decide)) (fun c218 => ?_)
      refine q_aload_n rfl rfl rfl ?_
      refine q_getf rfl rfl (by decide) rfl rfl ?_
      refine q_iload_n rfl rfl rfl ?_
      refine q_iconst rfl rfl ?_
      refine q_iast rfl rfl (by decide) rfl (by decide) ?_
      refine q_icc1 (z := 6) rfl rfl rfl rfl rfl ?_
      refine q_goto rfl ?_
      refine q_iload_n rfl rfl rfl ?_
      refine q_bipush rfl rfl ?_
      refine q_icge rfl rfl (fun c219 => absurd c219 (by decide)) (fun c219 => ?_)
      refine q_aload_n rfl rfl rfl ?_
      refine q_getf rfl rfl (by decide) rfl rfl ?_
      refine q_iload_n rfl rfl rfl ?_
      refine q_iconst rfl rfl ?_
      refine q_iast rfl rfl (by decide) rfl (by decide) ?_
      refine q_icc1 (z := 7) rfl rfl rfl rfl rfl ?_
      refine q_goto rfl ?_
      refine q_iload_n rfl rfl rfl ?_
      refine q_bipush rfl rfl ?_
      refine q_icge rfl rfl (fun c220 => absurd c220 (by decide)) (fun c220 => ?_)
      refine q_aload_n rfl rfl rfl ?_
      refine q_getf rfl rfl (by decide) rfl rfl ?_
      refine q_iload_n rfl rfl rfl ?_
      refine q_iconst rfl rfl ?_
      refine q_iast rfl rfl (by decide) rfl (by decide) ?_
      refine q_icc1 (z := 8) rfl rfl rfl rfl rfl ?_
      refine q_goto rfl ?_
      refine q_iload_n rfl rfl rfl ?_
      refine q_bipush rfl rfl ?_
      refine q_icge rfl rfl (fun c221 => absurd c221 (by decide)) (fun c221 => ?_)
      refine q_aload_n rfl rfl rfl ?_
      refine q_getf rfl rfl (by decide) rfl rfl ?_
      refine q_iload_n rfl rfl rfl ?_
      refine q_iconst rfl rfl ?_
      refine q_iast rfl rfl (by decide) rfl (by decide) ?_
      refine q_icc1 (z := 9) rfl rfl rfl rfl rfl ?_
      refine q_goto rfl ?_
      refine q_iload_n rfl rfl rfl ?_
      refine q_bipush rfl rfl ?_
      refine q_icge rfl rfl (fun c222 => absurd c222 (by decide)) (fun c222 => ?_)
      refine q_aload_n rfl rfl rfl ?_
      refine q_getf rfl rfl (by decide) rfl rfl ?_
      refine q_iload_n rfl rfl rfl ?_
      refine q_iconst rfl rfl ?_
      refine q_iast rfl rfl (by decide) rfl (by decide) ?_
      refine q_icc1 (z := 10) rfl rfl rfl rfl rfl ?_
      refine q_goto rfl ?_
      refine q_iload_n rfl rfl rfl ?_
      refine q_bipush rfl rfl ?_
      refine q_icge rfl rfl (fun c223 => absurd c223 (by decide)) (fun c223 => ?_)
      refine q_aload_n rfl rfl rfl ?_
      refine q_getf rfl rfl (by decide) rfl rfl ?_
      refine q_iload_n rfl rfl rfl ?_
      refine q_iconst rfl rfl ?_
      refine q_iast rfl rfl (by decide) rfl (by decide) ?_
      refine q_icc1 (z := 11) rfl rfl rfl rfl rfl ?_
      refine q_goto rfl ?_
      refine q_iload_n rfl rfl rfl ?_
      refine q_bipush rfl rfl ?_
      refine q_icge rfl rfl (fun c224 => absurd c224 (by decide)) (fun c224 => ?_)
      refine q_aload_n rfl rfl rfl ?_
      refine q_getf rfl rfl (by decide) rfl rfl ?_
      refine q_iload_n rfl rfl rfl ?_
      refine q_iconst rfl rfl ?_
      refine q_iast rfl rfl (by decide) rfl (by decide) ?_
      refine q_icc1 (z := 12) rfl rfl rfl rfl rfl ?_
      refine q_goto rfl ?_
      refine q_iload_n rfl rfl rfl ?_
      refine q_bipush rfl rfl ?_
      refine q_icge rfl rfl (fun c225 => absurd c225 (by decide)) (fun c225 => ?_)
      refine q_aload_n rfl rfl rfl ?_
      refine q_getf rfl rfl (by decide) rfl rfl ?_
      refine q_iload_n rfl rfl rfl ?_
      refine q_iconst rfl rfl ?_
      refine q_iast rfl rfl (by decide) rfl (by decide) ?_
      refine q_icc1 (z := 13) rfl rfl rfl rfl rfl ?_
      refine q_goto rfl ?_
      refine q_iload_n rfl rfl rfl ?_
      refine q_bipush rfl rfl ?_
      refine q_icge rfl rfl (fun c226 => absurd c226 (by decide)) (fun c226 => ?_)
      refine q_aload_n rfl rfl rfl ?_
      refine q_getf rfl rfl (by decide) rfl rfl ?_
      refine q_iload_n rfl rfl rfl ?_
      refine q_iconst rfl rfl ?_
      refine q_iast rfl rfl (by decide) rfl (by decide) ?_
      refine q_icc1 (z := 14) rfl rfl rfl rfl rfl ?_
      refine q_goto rfl ?_
      refine q_iload_n rfl rfl rfl ?_
      refine q_bipush rfl rfl ?_
      refine q_icge rfl rfl (fun c227 => absurd c227 (by decide)) (fun c227 => ?_)
      refine q_aload_n rfl rfl rfl ?_
      refine q_getf rfl rfl (by decide) rfl rfl ?_
      refine q_iload_n rfl rfl rfl ?_
      refine q_iconst rfl rfl ?_
      refine q_iast rfl rfl (by decide) rfl (by decide) ?_
      refine q_icc1 (z := 15) rfl rfl rfl rfl rfl ?_
      refine q_goto rfl ?_
      refine q_iload_n rfl rfl rfl ?_
      refine q_bipush rfl rfl ?_
      refine q_icge rfl rfl (fun c228 => absurd c228 (by decide)) (fun c228 => ?_)
      refine q_aload_n rfl rfl rfl ?_
      refine q_getf rfl rfl (by decide) rfl rfl ?_
      refine q_iload_n rfl rfl rfl ?_
      refine q_iconst rfl rfl ?_
      refine q_iast rfl rfl (by decide) rfl (by decide) ?_
      refine q_icc1 (z := 16) rfl rfl rfl rfl rfl ?_
      refine q_goto rfl ?_
      refine q_iload_n rfl rfl rfl ?_
      refine q_bipush rfl rfl ?_
      refine q_icge rfl rfl (fun c229 => absurd c229 (by decide)) (fun c229 => ?_)
      refine q_aload_n rfl rfl rfl ?_
      refine q_getf rfl rfl (by decide) rfl rfl ?_
      refine q_iload_n rfl rfl rfl ?_
      refine q_iconst rfl rfl ?_
      refine q_iast rfl rfl (by decide) rfl (by decide) ?_
      refine q_icc1 (z := 17) rfl rfl rfl rfl rfl ?_
      refine q_goto rfl ?_
      refine q_iload_n rfl rfl rfl ?_
      refine q_bipush rfl rfl ?_
      refine q_icge rfl rfl (fun c230 => absurd c230 (by decide)) (fun c230 => ?_)
      refine q_aload_n rfl rfl rfl ?_
      refine q_getf rfl rfl (by decide) rfl rfl ?_
      refine q_iload_n rfl rfl rfl ?_
      refine q_iconst rfl rfl ?_
      refine q_iast rfl rfl (by decide) rfl (by decide) ?_
      refine q_icc1 (z := 18) rfl rfl rfl rfl rfl ?_
      refine q_goto rfl ?_
      refine q_iload_n rfl rfl rfl ?_
      refine q_bipush rfl rfl ?_
      refine q_icge rfl rfl (fun c231 => absurd c231 (by decide)) (fun c231 => ?_)
      refine q_aload_n rfl rfl rfl ?_
      refine q_getf rfl rfl (by decide) rfl rfl ?_
      refine q_iload_n rfl rfl rfl ?_
      refine q_iconst rfl rfl ?_
      refine q_iast rfl rfl (by decide) rfl (by decide) ?_
      refine q_icc1 (z := 19) rfl rfl rfl rfl rfl ?_
      refine q_goto rfl ?_
      refine q_iload_n rfl rfl rfl ?_
      refine q_bipush rfl rfl ?_
      refine q_icge rfl rfl (fun c232 => absurd c232 (by decide)) (fun c232 => ?_)
      refine q_aload_n rfl rfl rfl ?_
      refine q_getf rfl rfl (by decide) rfl rfl ?_
      refine q_iload_n rfl rfl rfl ?_
      refine q_iconst rfl rfl ?_
      refine q_iast rfl rfl (by decide) rfl (by decide) ?_
      refine q_icc1 (z := 20) rfl rfl rfl rfl rfl ?_
      refine q_goto rfl ?_
      refine q_iload_n rfl rfl rfl ?_
      refine q_bipush rfl rfl ?_
      refine q_icge rfl rfl (fun c233 => ?_) (fun c233 => absurd (by decide) c233)
      refine q_iconst rfl rfl ?_
      refine q_ist1n rfl rfl rfl rfl ?_
      refine q_iload_n rfl rfl rfl ?_
      refine q_aload_n rfl rfl rfl ?_
      refine q_getf rfl rfl (by decide) rfl rfl ?_
      refine q_icge rfl rfl (fun c234 => absurd c234 (by decide)) (fun c234 => ?_)
      refine q_aload_n rfl rfl rfl ?_
      refine q_getf rfl rfl (by decide) rfl rfl ?_
      refine q_iconst rfl rfl ?_
      refine q_iload_n rfl rfl rfl ?_
      refine q_imul rfl rfl (q_tn (z := 0) rfl ?_)
      refine q_aload_n rfl rfl rfl ?_
      refine q_getf rfl rfl (by decide) rfl rfl ?_
      refine q_aload_n rfl rfl rfl ?_
      refine q_getf rfl rfl (by decide) rfl rfl ?_
      refine q_iload_n rfl rfl rfl ?_
      refine q_iadd rfl rfl (q_tn (z := 0) rfl ?_)
      refine q_iald rfl rfl (by decide) (FW_47 S hW) (by decide) (q_tn (z := 0) rfl ?_)
      refine q_ifne rfl rfl (fun c235 => ?_) (fun c235 => absurd (by decide) c235)
      refine q_bipush rfl rfl ?_
      refine q_goto rfl ?_
      refine q_iast rfl rfl (by decide) rfl (by decide) ?_
      refine q_icc1 (z := 1) rfl rfl rfl rfl rfl ?_
      refine q_goto rfl ?_
      refine q_iload_n rfl rfl rfl ?_
      refine q_aload_n rfl rfl rfl ?_
      refine q_getf rfl rfl (by decide) rfl rfl ?_
      refine q_icge rfl rfl (fun c236 => ?_) (fun c236 => absurd (by decide) c236)
      refine q_iconst rfl rfl ?_
      refine q_ist1n rfl rfl rfl rfl ?_
      refine q_iload_n rfl rfl rfl ?_
      refine q_iconst rfl rfl ?_
      refine q_icge rfl rfl (fun c237 => absurd c237 (by decide)) (fun c237 => ?_)
      refine q_aload_n rfl rfl rfl ?_
      refine q_getf rfl rfl (by decide) rfl rfl ?_
      refine q_bipush rfl rfl ?_
      refine q_iload_n rfl rfl rfl ?_
      refine q_iadd rfl rfl (q_tn (z := 12) rfl ?_)
      refine q_aload_n rfl rfl rfl ?_
      refine q_getf rfl rfl (by decide) rfl rfl ?_
      refine q_iload_n rfl rfl rfl ?_
      refine q_iald rfl rfl (by decide) (FW_51 S hW) (by decide) (q_tn (z := 0) rfl ?_)
      refine q_iast rfl rfl (by decide) rfl (by decide) ?_
      refine q_icc1 (z := 1) rfl rfl rfl rfl rfl ?_
      refine q_goto rfl ?_
      refine q_iload_n rfl rfl rfl ?_
      refine q_iconst rfl rfl ?_
      refine q_icge rfl rfl (fun c238 => absurd c238 (by decide)) (fun c238 => ?_)
      refine q_aload_n rfl rfl rfl ?_
      refine q_getf rfl rfl (by decide) rfl rfl ?_
      refine q_bipush rfl rfl ?_
      refine q_iload_n rfl rfl rfl ?_
      refine q_iadd rfl rfl (q_tn (z := 13) rfl ?_)
      refine q_aload_n rfl rfl rfl ?_
      refine q_getf rfl rfl (by decide) rfl rfl ?_
      refine q_iload_n rfl rfl rfl ?_
      refine q_iald rfl rfl (by decide) (FW_51 S hW) (by decide) (q_tn (z := 0) rfl ?_)
      refine q_iast rfl rfl (by decide) rfl (by decide) ?_
      refine q_icc1 (z := 2) rfl rfl rfl rfl rfl ?_
      refine q_goto rfl ?_
      refine q_iload_n rfl rfl rfl ?_
      refine q_iconst rfl rfl ?_
      refine q_icge rfl rfl (fun c239 => absurd c239 (by decide)) (fun c239 => ?_)
      refine q_aload_n rfl rfl rfl ?_
      refine q_getf rfl rfl (by decide) rfl rfl ?_
      refine q_bipush rfl rfl ?_
      refine q_iload_n rfl rfl rfl ?_
      refine q_iadd rfl rfl (q_tn (z := 14) rfl ?_)
      refine q_aload_n rfl rfl rfl ?_
      refine q_getf rfl rfl (by decide) rfl rfl ?_
      refine q_iload_n rfl rfl rfl ?_
      refine q_iald rfl rfl (by decide) (FW_51 S hW) (by decide) (q_tn (z := 0) rfl ?_)
      refine q_iast rfl rfl (by decide) rfl (by decide) ?_
      refine q_icc1 (z := 3) rfl rfl rfl rfl rfl ?_
      refine q_goto rfl ?_
      refine q_iload_n rfl rfl rfl ?_
      refine q_iconst rfl rfl ?_
      refine q_icge rfl rfl (fun c240 => absurd c240 (by decide)) (fun c240 => ?_)
      refine q_aload_n rfl rfl rfl ?_
      refine q_getf rfl rfl (by decide) rfl rfl ?_
      refine q_bipush rfl rfl ?_
      refine q_iload_n rfl rfl rfl ?_
      refine q_iadd rfl rfl (q_tn (z := 15) rfl ?_)
      refine q_aload_n rfl rfl rfl ?_
      refine q_getf rfl rfl (by decide) rfl rfl ?_
      refine q_iload_n rfl rfl rfl ?_
      refine q_iald rfl rfl (by decide) (FW_51 S hW) (by decide) (q_tn (z := 0) rfl ?_)
      refine q_iast rfl rfl (by decide) rfl (by decide) ?_
      refine q_icc1 (z := 4) rfl rfl rfl rfl rfl ?_
      refine q_goto rfl ?_
      refine q_iload_n rfl rfl rfl ?_
      refine q_iconst rfl rfl ?_
      refine q_icge rfl rfl (fun c241 => ?_) (fun c241 => absurd (by decide) c241)
      refine q_ret rfl rfl ?_
      refine ⟨rfl, ?_⟩
      refine q_iconst rfl rfl ?_
      refine q_ist3n rfl rfl rfl rfl ?_
      refine q_iload_n rfl rfl rfl ?_
      refine q_bipush rfl rfl ?_
      refine q_icge rfl rfl (fun c242 => absurd c242 (by decide)) (fun c242 => ?_)
      refine q_aload_n rfl rfl rfl ?_
      refine q_getf rfl rfl (by decide) rfl rfl ?_
      refine q_iload_n rfl rfl rfl ?_
      refine q_aload_n rfl rfl rfl ?_
      refine q_getf rfl rfl (by decide) rfl rfl ?_
      refine q_iload_n rfl rfl rfl ?_
      refine q_iald rfl rfl (by decide) rfl (by decide) (q_tn (z := 10) rfl ?_)
      refine q_iast rfl rfl (by decide) (FW_53 S hW) (by decide) ?_
      refine q_icc3 (z := 1) rfl rfl rfl rfl rfl ?_
      refine q_goto rfl ?_
      refine q_iload_n rfl rfl rfl ?_
      refine q_bipush rfl rfl ?_
      refine q_icge rfl rfl (fun c243 => absurd c243 (by decide)) (fun c243 => ?_)
      refine q_aload_n rfl rfl rfl ?_
      refine q_getf rfl rfl (by decide) rfl rfl ?_
      refine q_iload_n rfl rfl rfl ?_
      refine q_aload_n rfl rfl rfl ?_
      refine q_getf rfl rfl (by decide) rfl rfl ?_
      refine q_iload_n rfl rfl rfl ?_
      refine q_iald rfl rfl (by decide) rfl (by decide) (q_tn (z := 0) rfl ?_)
      refine q_iast rfl rfl (by decide) rfl (by decide) ?_
      refine q_icc3 (z := 2) rfl rfl rfl rfl rfl ?_
      refine q_goto rfl ?_
      refine q_iload_n rfl rfl rfl ?_
      refine q_bipush rfl rfl ?_
      refine q_icge rfl rfl (fun c244 => absurd c244 (by decide)) (fun c244 => ?_)
      refine q_aload_n rfl rfl rfl ?_
      refine q_getf rfl rfl (by decide) rfl rfl ?_
      refine q_iload_n rfl rfl rfl ?_
      refine q_aload_n rfl rfl rfl ?_
      refine q_getf rfl rfl (by decide) rfl rfl ?_
      refine q_iload_n rfl rfl rfl ?_
      refine q_iald rfl rfl (by decide) rfl (by decide) (q_tn (z := 0) rfl ?_)
      refine q_iast rfl rfl (by decide) rfl (by decide) ?_
      refine q_icc3 (z := 3) rfl rfl rfl rfl rfl ?_
      refine q_goto rfl ?_
      refine q_iload_n rfl rfl rfl ?_
      refine q_bipush rfl rfl ?_
      refine q_icge rfl rfl (fun c245 => absurd c245 (by decide)) (fun c245 => ?_)
      refine q_aload_n rfl rfl rfl ?_
      refine q_getf rfl rfl (by decide) rfl rfl ?_
      refine q_iload_n rfl rfl rfl ?_
      refine q_aload_n rfl rfl rfl ?_
      refine q_getf rfl rfl (by decide) rfl rfl ?_
      refine q_iload_n rfl rfl rfl ?_
      refine q_iald rfl rfl (by decide) rfl (by decide) (q_tn (z := 0) rfl ?_)
      refine q_iast rfl rfl (by decide) rfl (by decide) ?_
      refine q_icc3 (z := 4) rfl rfl rfl rfl rfl ?_
      refine q_goto rfl ?_
      refine q_iload_n rfl rfl rfl ?_
      refine q_bipush rfl rfl ?_
      refine q_icge rfl rfl (fun c246 => absurd c246 (by decide)) (fun c246 => ?_)
      refine q_aload_n rfl rfl rfl ?_
      refine q_getf rfl rfl (by decide) rfl rfl ?_
      refine q_iload_n rfl rfl rfl ?_
      refine q_aload_n rfl rfl rfl ?_
      refine q_getf rfl rfl (by decide) rfl rfl ?_
      refine q_iload_n rfl rfl rfl ?_
      refine q_iald rfl rfl (by decide) rfl (by decide) (q_tn (z := 0) rfl ?_)
      refine q_iast rfl rfl (by decide) rfl (by decide) ?_
      refine q_icc3 (z := 5) rfl rfl rfl rfl rfl ?_
      refine q_goto rfl ?_
      refine q_iload_n rfl rfl rfl ?_
      refine q_bipush rfl rfl ?_
      refine q_icge rfl rfl (fun c247 => absurd c247 (by decide)) (fun c247 => ?_)
      refine q_aload_n rfl rfl rfl ?_
      refine q_getf rfl rfl (by decide) rfl rfl ?_
      refine q_iload_n rfl rfl rfl ?_
      refine q_aload_n rfl rfl rfl ?_
      refine q_getf rfl rfl (by decide) rfl rfl ?_
      refine q_iload_n rfl rfl rfl ?_
      refine q_iald rfl rfl (by decide) rfl (by decide) (q_tn (z := 0) rfl ?_)
      refine q_iast rfl rfl (by decide) rfl (by decide) ?_
      refine q_icc3 (z := 6) rfl rfl rfl rfl rfl ?_
      refine q_goto rfl ?_
      refine q_iload_n rfl rfl rfl ?_
      refine q_bipush rfl rfl ?_
      refine q_icge rfl rfl (fun c248 => absurd c248 (by decide)) (fun c248 => ?_)
      refine q_aload_n rfl rfl rfl ?_
      refine q_getf rfl rfl (by decide) rfl rfl ?_
      refine q_iload_n rfl rfl rfl ?_
      refine q_aload_n rfl rfl rfl ?_
      refine q_getf rfl rfl (by decide) rfl rfl ?_
      refine q_iload_n rfl rfl rfl ?_
      refine q_iald rfl rfl (by decide) rfl (by decide) (q_tn (z := 0) rfl ?_)
      refine q_iast rfl rfl (by decide) rfl (by decide) ?_
      refine q_icc3 (z := 7) rfl rfl rfl rfl rfl ?_
      refine q_goto rfl ?_
      refine q_iload_n rfl rfl rfl ?_
      refine q_bipush rfl rfl ?_
      refine q_icge rfl rfl (fun c249 => absurd c249 (by decide)) (fun c249 => ?_)
      refine q_aload_n rfl rfl rfl ?_
      refine q_getf rfl rfl (by decide) rfl rfl ?_
      refine q_iload_n rfl rfl rfl ?_
      refine q_aload_n rfl rfl rfl ?_
      refine q_getf rfl rfl (by decide) rfl rfl ?_
      refine q_iload_n rfl rfl rfl ?_
      refine q_iald rfl rfl (by decide) rfl (by decide) (q_tn (z := 0) rfl ?_)
      refine q_iast rfl rfl (by decide) rfl (by decide) ?_
      refine q_icc3 (z := 8) rfl rfl rfl rfl rfl ?_
      refine q_goto rfl ?_
      refine q_iload_n rfl rfl rfl ?_
      refine q_bipush rfl rfl ?_
      refine q_icge rfl rfl (fun c250 => absurd c250 (by decide)) (fun c250 => ?_)
      refine q_aload_n rfl rfl rfl ?_
      refine q_getf rfl rfl (by decide) rfl rfl ?_
      refine q_iload_n rfl rfl rfl ?_
      refine q_aload_n rfl rfl rfl ?_
      refine q_getf rfl rfl (by decide) rfl rfl ?_
      refine q_iload_n rfl rfl rfl ?_
      refine q_iald rfl rfl (by decide) rfl (by decide) (q_tn (z := 0) rfl ?_)
      refine q_iast rfl rfl (by decide) rfl (by decide) ?_
      refine q_icc3 (z := 9) rfl rfl rfl rfl rfl ?_
      refine q_goto rfl ?_
      refine q_iload_n rfl rfl rfl ?_
      refine q_bipush rfl rfl ?_
      refine q_icge rfl rfl (fun c251 => absurd c251 (by decide)) (fun c251 => ?_)
      refine q_aload_n rfl rfl rfl ?_
      refine q_getf rfl rfl (by decide) rfl rfl ?_
      refine q_iload_n rfl rfl rfl ?_
      refine q_aload_n rfl rfl rfl ?_
      refine q_getf rfl rfl (by decide) rfl rfl ?_
      refine q_iload_n rfl rfl rfl ?_
      refine q_iald rfl rfl (by decide) rfl (by decide) (q_tn (z := 0) rfl ?_)
      refine q_iast rfl rfl (by decide) rfl (by decide) ?_
      refine q_icc3 (z := 10) rfl rfl rfl rfl rfl ?_
      refine q_goto rfl ?_
      refine q_iload_n rfl rfl rfl ?_
      refine q_bipush rfl rfl ?_
      refine q_icge rfl rfl (fun c252 => absurd c252 (by decide)) (fun c252 => ?_)
      refine q_aload_n rfl rfl rfl ?_
      refine q_getf rfl rfl (by decide) rfl rfl ?_
      refine q_iload_n rfl rfl rfl ?_
      refine q_aload_n rfl rfl rfl ?_
      refine q_getf rfl rfl (by decide) rfl rfl ?_
      refine q_iload_n rfl rfl rfl ?_
      refine q_iald rfl rfl (by decide) rfl (by decide) (q_tn (z := 0) rfl ?_)
      refine q_iast rfl rfl (by decide) rfl (by decide) ?_
      refine q_icc3 (z := 11) rfl rfl rfl rfl rfl ?_
      refine q_goto rfl ?_
      refine q_iload_n rfl rfl rfl ?_
      refine q_bipush rfl rfl ?_
      refine q_icge rfl rfl (fun c253 => absurd c253 (by decide)) (fun c253 => ?_)
      refine q_aload_n rfl rfl rfl ?_
      refine q_getf rfl rfl (by decide) rfl rfl ?_
      refine q_iload_n rfl rfl rfl ?_
      refine q_aload_n rfl rfl rfl ?_
      refine q_getf rfl rfl (by decide) rfl rfl ?_
      refine q_iload_n rfl rfl rfl ?_
      refine q_iald rfl rfl (by decide) rfl (by decide) (q_tn (z := 0) rfl ?_)
      refine q_iast rfl rfl (by decide) rfl (by decide) ?_
      refine q_icc3 (z := 12) rfl rfl rfl rfl rfl ?_
      refine q_goto rfl ?_
      refine q_iload_n rfl rfl rfl ?_
      refine q_bipush rfl rfl ?_
      refine q_icge rfl rfl (fun c254 => absurd c254 (by decide)) (fun c254 => ?_)
      refine q_aload_n rfl rfl rfl ?_
      refine q_getf rfl rfl (by decide) rfl rfl ?_
      refine q_iload_n rfl rfl rfl ?_
      refine q_aload_n rfl rfl rfl ?_
      refine q_getf rfl rfl (by decide) rfl rfl ?_
      refine q_iload_n rfl rfl rfl ?_
      refine q_iald rfl rfl (by decide) rfl (by decide) (q_tn (z := 0) rfl ?_)
      refine q_iast rfl rfl (by decide) rfl (by decide) ?_
      refine q_icc3 (z := 13) rfl rfl rfl rfl rfl ?_
      refine q_goto rfl ?_
      refine q_iload_n rfl rfl rfl ?_
      refine q_bipush rfl rfl ?_
      refine q_icge rfl rfl (fun c255 => absurd c255 (by decide)) (fun c255 => ?_)
      refine q_aload_n rfl rfl rfl ?_
      refine q_getf rfl rfl (by decide) rfl rfl ?_
      refine q_iload_n rfl rfl rfl ?_
      refine q_aload_n rfl rfl rfl ?_
      refine q_getf rfl rfl (by decide) rfl rfl ?_
      refine q_iload_n rfl rfl rfl ?_
      refine q_iald rfl rfl (by decide) rfl (by decide) (q_tn (z := 0) rfl ?_)
      refine q_iast rfl rfl (by decide) rfl (by decide) ?_
      refine q_icc3 (z := 14) rfl rfl rfl rfl rfl ?_
      refine q_goto rfl ?_
      refine q_iload_n rfl rfl rfl ?_
      refine q_bipush rfl rfl ?_
      refine q_icge rfl rfl (fun c256 => absurd c256 (by decide)) (fun c256 => ?_)
      refine q_aload_n rfl rfl rfl ?_
      refine q_getf rfl rfl (by decide) rfl rfl ?_
      refine q_iload_n rfl rfl rfl ?_
      refine q_aload_n rfl rfl rfl ?_
      refine q_getf rfl rfl (by decide) rfl rfl ?_
      refine q_iload_n rfl rfl rfl ?_
      refine q_iald rfl rfl (by decide) rfl (by decide) (q_tn (z := 0) rfl ?_)
      refine q_iast rfl rfl (by decide) rfl (by decide) ?_
      refine q_icc3 (z := 15) rfl rfl rfl rfl rfl ?_
      refine q_goto rfl ?_
      refine q_iload_n rfl rfl rfl ?_
      refine q_bipush rfl rfl ?_
      refine q_icge rfl rfl (fun c257 => absurd c257 (by decide)) (fun c257 => ?_)
      refine q_aload_n rfl rfl rfl ?_
      refine q_getf rfl rfl (by decide) rfl rfl ?_
      refine q_iload_n rfl rfl rfl ?_
      refine q_aload_n rfl rfl rfl ?_
      refine q_getf rfl rfl (by decide) rfl rfl ?_
      refine q_iload_n rfl rfl rfl ?_
      refine q_iald rfl rfl (by decide) rfl (by decide) (q_tn (z := 0) rfl ?_)
      refine q_iast rfl rfl (by decide) rfl (by decide) ?_
      refine q_icc3 (z := 16) rfl rfl rfl rfl rfl ?_
      refine q_goto rfl ?_
      refine q_iload_n rfl rfl rfl ?_
      refine q_bipush rfl rfl ?_
      refine q_icge rfl rfl (fun c258 => absurd c258 (by decide)) (fun c258 => ?_)
      refine q_aload_n rfl rfl rfl ?_
      refine q_getf rfl rfl (by decide) rfl rfl ?_
      refine q_iload_n rfl rfl rfl ?_
      refine q_aload_n rfl rfl rfl ?_
      refine q_getf rfl rfl (by decide) rfl rfl ?_
      refine q_iload_n rfl rfl rfl ?_
      refine q_iald rfl rfl (by decide) rfl (by decide) (q_tn (z := 0) rfl ?_)
      refine q_iast rfl rfl (by decide) rfl (by decide) ?_
      refine q_icc3 (z := 17) rfl rfl rfl rfl rfl ?_
      refine q_goto rfl ?_
      refine q_iload_n rfl rfl rfl ?_
      refine q_bipush rfl rfl ?_
      refine q_icge rfl rfl (fun c259 => absurd c259 (by decide)) (fun c259 => ?_)
      refine q_aload_n rfl rfl rfl ?_
      refine q_getf rfl rfl (by decide) rfl rfl ?_
      refine q_iload_n rfl rfl rfl ?_
      refine q_aload_n rfl rfl rfl ?_
      refine q_getf rfl rfl (by decide) rfl rfl ?_
      refine q_iload_n rfl rfl rfl ?_
      refine q_iald rfl rfl (by decide) rfl (by decide) (q_tn (z := 0) rfl ?_)
      refine q_iast rfl rfl (by decide) rfl (by decide) ?_
      refine q_icc3 (z := 18) rfl rfl rfl rfl rfl ?_
      refine q_goto rfl ?_
      refine q_iload_n rfl rfl rfl ?_
      refine q_bipush rfl rfl ?_
      refine q_icge rfl rfl (fun c260 => absurd c260 (by decide)) (fun c260 => ?_)
      refine q_aload_n rfl rfl rfl ?_
      refine q_getf rfl rfl (by decide) rfl rfl ?_
      refine q_iload_n rfl rfl rfl ?_
      refine q_aload_n rfl rfl rfl ?_
      refine q_getf rfl rfl (by decide) rfl rfl ?_
      refine q_iload_n rfl rfl rfl ?_
      refine q_iald rfl rfl (by decide) rfl (by decide) (q_tn (z := 0) rfl ?_)
      refine q_iast rfl rfl (by decide) rfl (by decide) ?_
      refine q_icc3 (z := 19) rfl rfl rfl rfl rfl ?_
      refine q_goto rfl ?_
      refine q_iload_n rfl rfl rfl ?_
      refine q_bipush rfl rfl ?_
      refine q_icge rfl rfl (fun c261 => absurd c261 (by decide)) (fun c261 => ?_)
      refine q_aload_n rfl rfl rfl ?_
      refine q_getf rfl rfl (by decide) rfl rfl ?_
      refine q_iload_n rfl rfl rfl ?_
      refine q_aload_n rfl rfl rfl ?_
      refine q_getf rfl rfl (by decide) rfl rfl ?_
      refine q_iload_n rfl rfl rfl ?_
      refine q_iald rfl rfl (by decide) rfl (by decide) (q_tn (z := 0) rfl ?_)
      refine q_iast rfl rfl (by decide) rfl (by decide) ?_
      refine q_icc3 (z := 20) rfl rfl rfl rfl rfl ?_
      refine q_goto rfl ?_
      refine q_iload_n rfl rfl rfl ?_
      refine q_bipush rfl rfl ?_
      refine q_icge rfl rfl (fun c262 => ?_) (fun c262 => absurd (by decide) c262)
      refine q_aload_n rfl rfl rfl ?_
      refine q_iload_n rfl rfl rfl ?_
      refine q_iconst rfl rfl ?_
      refine q_iconst rfl rfl ?_
      refine q_nV3 rfl rfl (Or.inl rfl) rfl rfl rfl (by decide) rfl ⟨rfl, rfl⟩ rfl ?_
      change PQ _ _ _ mm_X12_put 0 [.ref 46, .int 0, .int (-1), .int (-1), pm_un, pm_un, pm_un] [] _ _ 0 0 _
      refine q_aload_n rfl rfl rfl ?_
      refine q_getf rfl rfl (by decide) rfl rfl ?_
      refine q_iload_n rfl rfl rfl ?_
      refine q_iald rfl rfl (by decide) rfl (by decide) (q_tn (z := 0) rfl ?_)
      refine q_ist4 rfl rfl rfl rfl ?_
      refine q_iload rfl rfl rfl ?_
      refine q_sipush rfl rfl ?_
      refine q_icne rfl rfl (fun c263 => absurd c263 (by decide)) (fun c263 => ?_)
      refine q_sipush rfl rfl ?_
      refine q_iload_n rfl rfl rfl ?_
      refine q_imul rfl rfl (q_tn (z := 0) rfl ?_)
      refine q_iload rfl rfl rfl ?_
      refine q_iadd rfl rfl (q_tn (z := 0) rfl ?_)
      refine q_ist5 rfl rfl rfl rfl ?_
      refine q_iconst rfl rfl ?_
      refine q_ist6 rfl rfl rfl rfl ?_
      refine q_iload rfl rfl rfl ?_
      refine q_bipush rfl rfl ?_
      refine q_icge rfl rfl (fun c264 => absurd c264 (by decide)) (fun c264 => ?_)
      refine q_aload_n rfl rfl rfl ?_
      refine q_getf rfl rfl (by decide) rfl rfl ?_
      refine q_bipush rfl rfl ?_
      refine q_iload rfl rfl rfl ?_
      refine q_imul rfl rfl (q_tn (z := 0) rfl ?_)
      refine q_iload rfl rfl rfl ?_
      refine q_iadd rfl rfl (q_tn (z := 0) rfl ?_)
      refine q_aload_n rfl rfl rfl ?_
      refine q_getf rfl rfl (by decide) rfl rfl ?_
      refine q_iload rfl rfl rfl ?_
      refine q_iald rfl rfl (by decide) rfl (by decide) (q_tn (z := 10) rfl ?_)
      refine q_iast rfl rfl (by decide) (FW_55 S hW) (by decide) ?_
      refine q_icc6 (z := 1) rfl rfl rfl rfl rfl ?_
      refine q_goto rfl ?_
      refine q_iload rfl rfl rfl ?_
      refine q_bipush rfl rfl ?_
      refine q_icge rfl rfl (fun c265 => absurd c265 (by decide)) (fun c265 => ?_)
      refine q_aload_n rfl rfl rfl ?_
      refine q_getf rfl rfl (by decide) rfl rfl ?_
      refine q_bipush rfl rfl ?_
      refine q_iload rfl rfl rfl ?_
      refine q_imul rfl rfl (q_tn (z := 0) rfl ?_)
      refine q_iload rfl rfl rfl ?_
      refine q_iadd rfl rfl (q_tn (z := 1) rfl ?_)
      refine q_aload_n rfl rfl rfl ?_
      refine q_getf rfl rfl (by decide) rfl rfl ?_
      refine q_iload rfl rfl rfl ?_
      refine q_iald rfl rfl (by decide) rfl (by decide) (q_tn (z := 0) rfl ?_)
      refine q_iast rfl rfl (by decide) rfl (by decide) ?_
      refine q_icc6 (z := 2) rfl rfl rfl rfl rfl ?_
      refine q_goto rfl ?_
      refine q_iload rfl rfl rfl ?_
      refine q_bipush rfl rfl ?_
      refine q_icge rfl rfl (fun c266 => absurd c266 (by decide)) (fun c266 => ?_)
      refine q_aload_n rfl rfl rfl ?_
      refine q_getf rfl rfl (by decide) rfl rfl ?_
      refine q_bipush rfl rfl ?_
      refine q_iload rfl rfl rfl ?_
      refine q_imul rfl rfl (q_tn (z := 0) rfl ?_)
      refine q_iload rfl rfl rfl ?_
      refine q_iadd rfl rfl (q_tn (z := 2) rfl ?_)
      refine q_aload_n rfl rfl rfl ?_
      refine q_getf rfl rfl (by decide) rfl rfl ?_
      refine q_iload rfl rfl rfl ?_
      refine q_iald rfl rfl (by decide) rfl (by decide) (q_tn (z := 0) rfl ?_)
      refine q_iast rfl rfl (by decide) rfl (by decide) ?_
      refine q_icc6 (z := 3) rfl rfl rfl rfl rfl ?_
      refine q_goto rfl ?_
      refine q_iload rfl rfl rfl ?_
      refine q_bipush rfl rfl ?_
      refine q_icge rfl rfl (fun c267 => absurd c267 (by decide)) (fun c267 => ?_)
      refine q_aload_n rfl rfl rfl ?_
      refine q_getf rfl rfl (by decide) rfl rfl ?_
      refine q_bipush rfl rfl ?_
      refine q_iload rfl rfl rfl ?_
      refine q_imul rfl rfl (q_tn (z := 0) rfl ?_)
      refine q_iload rfl rfl rfl ?_
      refine q_iadd rfl rfl (q_tn (z := 3) rfl ?_)
      refine q_aload_n rfl rfl rfl ?_
      refine q_getf rfl rfl (by decide) rfl rfl ?_
      refine q_iload rfl rfl rfl ?_
      refine q_iald rfl rfl (by decide) rfl (by decide) (q_tn (z := 0) rfl ?_)
      refine q_iast rfl rfl (by decide) rfl (by decide) ?_
      refine q_icc6 (z := 4) rfl rfl rfl rfl rfl ?_
      refine q_goto rfl ?_
      refine q_iload rfl rfl rfl ?_
      refine q_bipush rfl rfl ?_
      refine q_icge rfl rfl (fun c268 => absurd c268 (by decide)) (fun c268 => ?_)
      refine q_aload_n rfl rfl rfl ?_
      refine q_getf rfl rfl (by decide) rfl rfl ?_
      refine q_bipush rfl rfl ?_
      refine q_iload rfl rfl rfl ?_
      refine q_imul rfl rfl (q_tn (z := 0) rfl ?_)
      refine q_iload rfl rfl rfl ?_
      refine q_iadd rfl rfl (q_tn (z := 4) rfl ?_)
      refine q_aload_n rfl rfl rfl ?_
      refine q_getf rfl rfl (by decide) rfl rfl ?_
      refine q_iload rfl rfl rfl ?_
      refine q_iald rfl rfl (by decide) rfl (by decide) (q_tn (z := 0) rfl ?_)
      refine q_iast rfl rfl (by decide) rfl (by decide) ?_
      refine q_icc6 (z := 5) rfl rfl rfl rfl rfl ?_
      refine q_goto rfl ?_
      refine q_iload rfl rfl rfl ?_
      refine q_bipush rfl rfl ?_
      refine q_icge rfl rfl (fun c269 => absurd c269 (by decide)) (fun c269 => ?_)
      refine q_aload_n rfl rfl rfl ?_
      refine q_getf rfl rfl (by decide) rfl rfl ?_
      refine q_bipush rfl rfl ?_
      refine q_iload rfl rfl rfl ?_
      refine q_imul rfl rfl (q_tn (z := 0) rfl ?_)
      refine q_iload rfl rfl rfl ?_
      refine q_iadd rfl rfl (q_tn (z := 5) rfl ?_)
      refine q_aload_n rfl rfl rfl ?_
      refine q_getf rfl rfl (by decide) rfl rfl ?_
      refine q_iload rfl rfl rfl ?_
      refine q_iald rfl rfl (by decide) rfl (by decide) (q_tn (z := 0) rfl ?_)
      refine q_iast rfl rfl (by decide) rfl (by decide) ?_
      refine q_icc6 (z := 6) rfl rfl rfl rfl rfl ?_
      refine q_goto rfl ?_
      refine q_iload rfl rfl rfl ?_
      refine q_bipush rfl rfl ?_
      refine q_icge rfl rfl (fun c270 => absurd c270 (by decide)) (fun c270 => ?_)
      refine q_aload_n rfl rfl rfl ?_
      refine q_getf rfl rfl (by decide) rfl rfl ?_
      refine q_bipush rfl rfl ?_
      refine q_iload rfl rfl rfl ?_
      refine q_imul rfl rfl (q_tn (z := 0) rfl ?_)
      refine q_iload rfl rfl rfl ?_
      refine q_iadd rfl rfl (q_tn (z := 6) rfl ?_)
      refine q_aload_n rfl rfl rfl ?_
      refine q_getf rfl rfl (by decide) rfl rfl ?_
      refine q_iload rfl rfl rfl ?_
      refine q_iald rfl rfl (by decide) rfl (by decide) (q_tn (z := 0) rfl ?_)
      refine q_iast rfl rfl (by decide) rfl (by decide) ?_
      refine q_icc6 (z := 7) rfl rfl rfl rfl rfl ?_
      refine q_goto rfl ?_
      refine q_iload rfl rfl rfl ?_
      refine q_bipush rfl rfl ?_
      refine q_icge rfl rfl (fun c271 => absurd c271 (by decide)) (fun c271 => ?_)
      refine q_aload_n rfl rfl rfl ?_
      refine q_getf rfl rfl (by decide) rfl rfl ?_
      refine q_bipush rfl rfl ?_
      refine q_iload rfl rfl rfl ?_
      refine q_imul rfl rfl (q_tn (z := 0) rfl ?_)
      refine q_iload rfl rfl rfl ?_
      refine q_iadd rfl rfl (q_tn (z := 7) rfl ?_)
      refine q_aload_n rfl rfl rfl ?_
      refine q_getf rfl rfl (by decide) rfl rfl ?_
      refine q_iload rfl rfl rfl ?_
      refine q_iald rfl rfl (by decide) rfl (by decide) (q_tn (z := 0) rfl ?_)
      refine q_iast rfl rfl (by decide) rfl (by decide) ?_
      refine q_icc6 (z := 8) rfl rfl rfl rfl rfl ?_
      refine q_goto rfl ?_
      refine q_iload rfl rfl rfl ?_
      refine q_bipush rfl rfl ?_
      refine q_icge rfl rfl (fun c272 => absurd c272 (by decide)) (fun c272 => ?_)
      refine q_aload_n rfl rfl rfl ?_
      refine q_getf rfl rfl (by decide) rfl rfl ?_
      refine q_bipush rfl rfl ?_
      refine q_iload rfl rfl rfl ?_
      refine q_imul rfl rfl (q_tn (z := 0) rfl ?_)
      refine q_iload rfl rfl rfl ?_
      refine q_iadd rfl rfl (q_tn (z := 8) rfl ?_)
      refine q_aload_n rfl rfl rfl ?_
      refine q_getf rfl rfl (by decide) rfl rfl ?_
      refine q_iload rfl rfl rfl ?_
      refine q_iald rfl rfl (by decide) rfl (by decide) (q_tn (z := 0) rfl ?_)
      refine q_iast rfl rfl (by decide) rfl (by decide) ?_
      refine q_icc6 (z := 9) rfl rfl rfl rfl rfl ?_
      refine q_goto rfl ?_
      refine q_iload rfl rfl rfl ?_
      refine q_bipush rfl rfl ?_
      refine q_icge rfl rfl (fun c273 => absurd c273 (by decide)) (fun c273 => ?_)
      refine q_aload_n rfl rfl rfl ?_
      refine q_getf rfl rfl (by decide) rfl rfl ?_
      refine q_bipush rfl rfl ?_
      refine q_iload rfl rfl rfl ?_
      refine q_imul rfl rfl (q_tn (z := 0) rfl ?_)
      refine q_iload rfl rfl rfl ?_
      refine q_iadd rfl rfl (q_tn (z := 9) rfl ?_)
      refine q_aload_n rfl rfl rfl ?_
      refine q_getf rfl rfl (by decide) rfl rfl ?_
      refine q_iload rfl rfl rfl ?_
      refine q_iald rfl rfl (by decide) rfl (by decide) (q_tn (z := 0) rfl ?_)
      refine q_iast rfl rfl (by decide) rfl (by decide) ?_
      refine q_icc6 (z := 10) rfl rfl rfl rfl rfl ?_
      refine q_goto rfl ?_
      refine q_iload rfl rfl rfl ?_
      refine q_bipush rfl rfl ?_
      refine q_icge rfl rfl (fun c274 => absurd c274 (by decide)) (fun c274 => ?_)
      refine q_aload_n rfl rfl rfl ?_
      refine q_getf rfl rfl (by decide) rfl rfl ?_
      refine q_bipush rfl rfl ?_
      refine q_iload rfl rfl rfl ?_
      refine q_imul rfl rfl (q_tn (z := 0) rfl ?_)
      refine q_iload rfl rfl rfl ?_
      refine q_iadd rfl rfl (q_tn (z := 10) rfl ?_)
      refine q_aload_n rfl rfl rfl ?_
      refine q_getf rfl rfl (by decide) rfl rfl ?_
      refine q_iload rfl rfl rfl ?_
      refine q_iald rfl rfl (by decide) rfl (by decide) (q_tn (z := 0) rfl ?_)
      refine q_iast rfl rfl (by decide) rfl (by decide) ?_
      refine q_icc6 (z := 11) rfl rfl rfl rfl rfl ?_
      refine q_goto rfl ?_
      refine q_iload rfl rfl rfl ?_
      refine q_bipush rfl rfl ?_
      refine q_icge rfl rfl (fun c275 => absurd c275 (by decide)) (fun c275 => ?_)
      refine q_aload_n rfl rfl rfl ?_
      refine q_getf rfl rfl (by decide) rfl rfl ?_
      refine q_bipush rfl rfl ?_
      refine q_iload rfl rfl rfl ?_
      refine q_imul rfl rfl (q_tn (z := 0) rfl ?_)
      refine q_iload rfl rfl rfl ?_
      refine q_iadd rfl rfl (q_tn (z := 11) rfl ?_)
      refine q_aload_n rfl rfl rfl ?_
      refine q_getf rfl rfl (by decide) rfl rfl ?_
      refine q_iload rfl rfl rfl ?_
      refine q_iald rfl rfl (by decide) rfl (by decide) (q_tn (z := 0) rfl ?_)
      refine q_iast rfl rfl (by decide) rfl (by decide) ?_
      refine q_icc6 (z := 12) rfl rfl rfl rfl rfl ?_
      refine q_goto rfl ?_
      refine q_iload rfl rfl rfl ?_
      refine q_bipush rfl rfl ?_
      refine q_icge rfl rfl (fun c276 => absurd c276 (by decide)) (fun c276 => ?_)
      refine q_aload_n rfl rfl rfl ?_
      refine q_getf rfl rfl (by decide) rfl rfl ?_
      refine q_bipush rfl rfl ?_
      refine q_iload rfl rfl rfl ?_
      refine q_imul rfl rfl (q_tn (z := 0) rfl ?_)
      refine q_iload rfl rfl rfl ?_
      refine q_iadd rfl rfl (q_tn (z := 12) rfl ?_)
      refine q_aload_n rfl rfl rfl ?_
      refine q_getf rfl rfl (by decide) rfl rfl ?_
      refine q_iload rfl rfl rfl ?_
      refine q_iald rfl rfl (by decide) rfl (by decide) (q_tn (z := 0) rfl ?_)
      refine q_iast rfl rfl (by decide) rfl (by decide) ?_
      refine q_icc6 (z := 13) rfl rfl rfl rfl rfl ?_
      refine q_goto rfl ?_
      refine q_iload rfl rfl rfl ?_
      refine q_bipush rfl rfl ?_
      refine q_icge rfl rfl (fun c277 => absurd c277 (by decide)) (fun c277 => ?_)
      refine q_aload_n rfl rfl rfl ?_
      refine q_getf rfl rfl (by decide) rfl rfl ?_
      refine q_bipush rfl rfl ?_
      refine q_iload rfl rfl rfl ?_
      refine q_imul rfl rfl (q_tn (z := 0) rfl ?_)
      refine q_iload rfl rfl rfl ?_
      refine q_iadd rfl rfl (q_tn (z := 13) rfl ?_)
      refine q_aload_n rfl rfl rfl ?_
      refine q_getf rfl rfl (by decide) rfl rfl ?_
      refine q_iload rfl rfl rfl ?_
      refine q_iald rfl rfl (by decide) rfl (by decide) (q_tn (z := 0) rfl ?_)
      refine q_iast rfl rfl (by decide) rfl (by decide) ?_
      refine q_icc6 (z := 14) rfl rfl rfl rfl rfl ?_
      refine q_goto rfl ?_
      refine q_iload rfl rfl rfl ?_
      refine q_bipush rfl rfl ?_
      refine q_icge rfl rfl (fun c278 => absurd c278 (by decide)) (fun c278 => ?_)
      refine q_aload_n rfl rfl rfl ?_
      refine q_getf rfl rfl (by decide) rfl rfl ?_
      refine q_bipush rfl rfl ?_
      refine q_iload rfl rfl rfl ?_
      refine q_imul rfl rfl (q_tn (z := 0) rfl ?_)
      refine q_iload rfl rfl rfl ?_
      refine q_iadd rfl rfl (q_tn (z := 14) rfl ?_)
      refine q_aload_n rfl rfl rfl ?_
      refine q_getf rfl rfl (by decide) rfl rfl ?_
      refine q_iload rfl rfl rfl ?_
      refine q_iald rfl rfl (by decide) rfl (by decide) (q_tn (z := 0) rfl ?_)
      refine q_iast rfl rfl (by decide) rfl (by decide) ?_
      refine q_icc6 (z := 15) rfl rfl rfl rfl rfl ?_
      refine q_goto rfl ?_
      refine q_iload rfl rfl rfl ?_
      refine q_bipush rfl rfl ?_
      refine q_icge rfl rfl (fun c279 => absurd c279 (by decide)) (fun c279 => ?_)
      refine q_aload_n rfl rfl rfl ?_
      refine q_getf rfl rfl (by decide) rfl rfl ?_
      refine q_bipush rfl rfl ?_
      refine q_iload rfl rfl rfl ?_
      refine q_imul rfl rfl (q_tn (z := 0) rfl ?_)
      refine q_iload rfl rfl rfl ?_
      refine q_iadd rfl rfl (q_tn (z := 15) rfl ?_)
      refine q_aload_n rfl rfl rfl ?_
      refine q_getf rfl rfl (by decide) rfl rfl ?_
      refine q_iload rfl rfl rfl ?_
      refine q_iald rfl rfl (by decide) rfl (by decide) (q_tn (z := 0) rfl ?_)
      refine q_iast rfl rfl (by decide) rfl (by decide) ?_
      refine q_icc6 (z := 16) rfl rfl rfl rfl rfl ?_
      refine q_goto rfl ?_
      refine q_iload rfl rfl rfl ?_
      refine q_bipush rfl rfl ?_
      refine q_icge rfl rfl (fun c280 => absurd c280 (by decide)) (fun c280 => ?_)
      refine q_aload_n rfl rfl rfl ?_
      refine q_getf rfl rfl (by decide) rfl rfl ?_
      refine q_bipush rfl rfl ?_
      refine q_iload rfl rfl rfl ?_
      refine q_imul rfl rfl (q_tn (z := 0) rfl ?_)
      refine q_iload rfl rfl rfl ?_
      refine q_iadd rfl rfl (q_tn (z := 16) rfl ?_)
      refine q_aload_n rfl rfl rfl ?_
      refine q_getf rfl rfl (by decide) rfl rfl ?_
      refine q_iload rfl rfl rfl ?_
      refine q_iald rfl rfl (by decide) rfl (by decide) (q_tn (z := 0) rfl ?_)
      refine q_iast rfl rfl (by decide) rfl (by decide) ?_
      refine q_icc6 (z := 17) rfl rfl rfl rfl rfl ?_
      refine q_goto rfl ?_
      refine q_iload rfl rfl rfl ?_
      refine q_bipush rfl rfl ?_
      refine q_icge rfl rfl (fun c281 => absurd c281 (by decide)) (fun c281 => ?_)
      refine q_aload_n rfl rfl rfl ?_
      refine q_getf rfl rfl (by decide) rfl rfl ?_
      refine q_bipush rfl rfl ?_
      refine q_iload rfl rfl rfl ?_
      refine q_imul rfl rfl (q_tn (z := 0) rfl ?_)
      refine q_iload rfl rfl rfl ?_
      refine q_iadd rfl rfl (q_tn (z := 17) rfl ?_)
      refine q_aload_n rfl rfl rfl ?_
      refine q_getf rfl rfl (by decide) rfl rfl ?_
      refine q_iload rfl rfl rfl ?_
      refine q_iald rfl rfl (by decide) rfl (by decide) (q_tn (z := 0) rfl ?_)
      refine q_iast rfl rfl (by decide) rfl (by decide) ?_
      refine q_icc6 (z := 18) rfl rfl rfl rfl rfl ?_
      refine q_goto rfl ?_
      refine q_iload rfl rfl rfl ?_
      refine q_bipush rfl rfl ?_
      refine q_icge rfl rfl (fun c282 => absurd c282 (by decide)) (fun c282 => ?_)
      refine q_aload_n rfl rfl rfl ?_
      refine q_getf rfl rfl (by decide) rfl rfl ?_
      refine q_bipush rfl rfl ?_
      refine q_iload rfl rfl rfl ?_
      refine q_imul rfl rfl (q_tn (z := 0) rfl ?_)
      refine q_iload rfl rfl rfl ?_
      refine q_iadd rfl rfl (q_tn (z := 18) rfl ?_)
      refine q_aload_n rfl rfl rfl ?_
      refine q_getf rfl rfl (by decide) rfl rfl ?_
      refine q_iload rfl rfl rfl ?_
      refine q_iald rfl rfl (by decide) rfl (by decide) (q_tn (z := 0) rfl ?_)
      refine q_iast rfl rfl (by decide) rfl (by decide) ?_
      refine q_icc6 (z := 19) rfl rfl rfl rfl rfl ?_
      refine q_goto rfl ?_
      refine q_iload rfl rfl rfl ?_
      refine q_bipush rfl rfl ?_
      refine q_icge rfl rfl (fun c283 => absurd c283 (by decide)) (fun c283 => ?_)
      refine q_aload_n rfl rfl rfl ?_
      refine q_getf rfl rfl (by decide) rfl rfl ?_
      refine q_bipush rfl rfl ?_
      refine q_iload rfl rfl rfl ?_
      refine q_imul rfl rfl (q_tn (z := 0) rfl ?_)
      refine q_iload rfl rfl rfl ?_
      refine q_iadd rfl rfl (q_tn (z := 19) rfl ?_)
      refine q_aload_n rfl rfl rfl ?_
      refine q_getf rfl rfl (by decide) rfl rfl ?_
      refine q_iload rfl rfl rfl ?_
      refine q_iald rfl rfl (by decide) rfl (by decide) (q_tn (z := 0) rfl ?_)
      refine q_iast rfl rfl (by decide) rfl (by decide) ?_
      refine q_icc6 (z := 20) rfl rfl rfl rfl rfl ?_
      refine q_goto rfl ?_
      refine q_iload rfl rfl rfl ?_
      refine q_bipush rfl rfl ?_
      refine q_icge rfl rfl (fun c284 => ?_) (fun c284 => absurd (by decide) c284)
      refine q_aload_n rfl rfl rfl ?_
      refine q_getf rfl rfl (by decide) rfl rfl ?_
      refine q_iload rfl rfl rfl ?_
      refine q_iload_n rfl rfl rfl ?_
      refine q_iast rfl rfl (by decide) (FW_56 S hW) (by decide) ?_
      refine q_aload_n rfl rfl rfl ?_
      refine q_getf rfl rfl (by decide) rfl rfl ?_
      refine q_iload rfl rfl rfl ?_
      refine q_iload_n rfl rfl rfl ?_
      refine q_iast rfl rfl (by decide) (FW_57 S hW) (by decide) ?_
      refine q_aload_n rfl rfl rfl ?_
      refine q_iload_n rfl rfl rfl ?_
      refine q_nV1 rfl rfl (Or.inl rfl) rfl rfl rfl (by decide) rfl ⟨rfl, rfl⟩ rfl ?_
      change PQ _ _ _ mm_X12_rest 0 [.ref 46, .int 0, pm_un, pm_un] [] _ _ 0 0 _
      refine q_bipush rfl rfl ?_
      refine q_ist2n rfl rfl rfl rfl ?_
      refine q_iconst rfl rfl ?_
      refine q_ist3n rfl rfl rfl rfl ?_
      refine q_iload_n rfl rfl rfl ?_
      refine q_bipush rfl rfl ?_
      refine q_icge rfl rfl (fun c285 => absurd c285 (by decide)) (fun c285 => ?_)
      refine q_bipush rfl rfl ?_
      refine q_iload_n rfl rfl rfl ?_
      refine q_imul rfl rfl (q_tn (z := 527) rfl ?_)
      refine q_aload_n rfl rfl rfl ?_
      refine q_getf rfl rfl (by decide) rfl rfl ?_
      refine q_iload_n rfl rfl rfl ?_
      refine q_iald rfl rfl (by decide) rfl (by decide) (q_tn (z := 10) rfl ?_)
      refine q_iadd rfl rfl (q_tn (z := 537) rfl ?_)
      refine q_ist2n rfl rfl rfl rfl ?_
      refine q_icc3 (z := 1) rfl rfl rfl rfl rfl ?_
      refine q_goto rfl ?_
      refine q_iload_n rfl rfl rfl ?_
      refine q_bipush rfl rfl ?_
      refine q_icge rfl rfl (fun c286 => absurd c286 (by decide)) (fun c286 => ?_)
      refine q_bipush rfl rfl ?_
      refine q_iload_n rfl rfl rfl ?_
      refine q_imul rfl rfl (q_tn (z := 16647) rfl ?_)
      refine q_aload_n rfl rfl rfl ?_
      refine q_getf rfl rfl (by decide) rfl rfl ?_
      refine q_iload_n rfl rfl rfl ?_
      refine q_iald rfl rfl (by decide) rfl (by decide) (q_tn (z := 0) rfl ?_)
      refine q_iadd rfl rfl (q_tn (z := 16647) rfl ?_)
      refine q_ist2n rfl rfl rfl rfl ?_
      refine q_icc3 (z := 2) rfl rfl rfl rfl rfl ?_
      refine q_goto rfl ?_
      refine q_iload_n rfl rfl rfl ?_
      refine q_bipush rfl rfl ?_
      refine q_icge rfl rfl (fun c287 => absurd c287 (by decide)) (fun c287 => ?_)
      refine q_bipush rfl rfl ?_
      refine q_iload_n rfl rfl rfl ?_
      refine q_imul rfl rfl (q_tn (z := 516057) rfl ?_)
      refine q_aload_n rfl rfl rfl ?_
      refine q_getf rfl rfl (by decide) rfl rfl ?_
      refine q_iload_n rfl rfl rfl ?_
      refine q_iald rfl rfl (by decide) rfl (by decide) (q_tn (z := 0) rfl ?_)
      refine q_iadd rfl rfl (q_tn (z := 516057) rfl ?_)
      refine q_ist2n rfl rfl rfl rfl ?_
      refine q_icc3 (z := 3) rfl rfl rfl rfl rfl ?_
      refine q_goto rfl ?_
      refine q_iload_n rfl rfl rfl ?_
      refine q_bipush rfl rfl ?_
      refine q_icge rfl rfl (fun c288 => absurd c288 (by decide)) (fun c288 => ?_)
      refine q_bipush rfl rfl ?_
      refine q_iload_n rfl rfl rfl ?_
      refine q_imul rfl rfl (q_tn (z := 15997767) rfl ?_)
      refine q_aload_n rfl rfl rfl ?_
      refine q_getf rfl rfl (by decide) rfl rfl ?_
      refine q_iload_n rfl rfl rfl ?_
      refine q_iald rfl rfl (by decide) rfl (by decide) (q_tn (z := 0) rfl ?_)
      refine q_iadd rfl rfl (q_tn (z := 15997767) rfl ?_)
      refine q_ist2n rfl rfl rfl rfl ?_
      refine q_icc3 (z := 4) rfl rfl rfl rfl rfl ?_
      refine q_goto rfl ?_
      refine q_iload_n rfl rfl rfl ?_
      refine q_bipush rfl rfl ?_
      refine q_icge rfl rfl (fun c289 => absurd c289 (by decide)) (fun c289 => ?_)
      refine q_bipush rfl rfl ?_
      refine q_iload_n rfl rfl rfl ?_
      refine q_imul rfl rfl (q_tn (z := 495930777) rfl ?_)
      refine q_aload_n rfl rfl rfl ?_
      refine q_getf rfl rfl (by decide) rfl rfl ?_
      refine q_iload_n rfl rfl rfl ?_
      refine q_iald rfl rfl (by decide) rfl (by decide) (q_tn (z := 0) rfl ?_)
      refine q_iadd rfl rfl (q_tn (z := 495930777) rfl ?_)
      refine q_ist2n rfl rfl rfl rfl ?_
      refine q_icc3 (z := 5) rfl rfl rfl rfl rfl ?_
      refine q_goto rfl ?_
      refine q_iload_n rfl rfl rfl ?_
      refine q_bipush rfl rfl ?_
      refine q_icge rfl rfl (fun c290 => absurd c290 (by decide)) (fun c290 => ?_)
      refine q_bipush rfl rfl ?_
      refine q_iload_n rfl rfl rfl ?_
      refine q_imul rfl rfl (q_tn (z := (-1806015097)) rfl ?_)
      refine q_aload_n rfl rfl rfl ?_
      refine q_getf rfl rfl (by decide) rfl rfl ?_
      refine q_iload_n rfl rfl rfl ?_
      refine q_iald rfl rfl (by decide) rfl (by decide) (q_tn (z := 0) rfl ?_)
      refine q_iadd rfl rfl (q_tn (z := (-1806015097)) rfl ?_)
      refine q_ist2n rfl rfl rfl rfl ?_
      refine q_icc3 (z := 6) rfl rfl rfl rfl rfl ?_
      refine q_goto rfl ?_
      refine q_iload_n rfl rfl rfl ?_
      refine q_bipush rfl rfl ?_
      refine q_icge rfl rfl (fun c291 => absurd c291 (by decide)) (fun c291 => ?_)
      refine q_bipush rfl rfl ?_
      refine q_iload_n rfl rfl rfl ?_
      refine q_imul rfl rfl (q_tn (z := (-151893159)) rfl ?_)
      refine q_aload_n rfl rfl rfl ?_
      refine q_getf rfl rfl (by decide) rfl rfl ?_
      refine q_iload_n rfl rfl rfl ?_
      refine q_iald rfl rfl (by decide) rfl (by decide) (q_tn (z := 0) rfl ?_)
      refine q_iadd rfl rfl (q_tn (z := (-151893159)) rfl ?_)
      refine q_ist2n rfl rfl rfl rfl ?_
      refine q_icc3 (z := 7) rfl rfl rfl rfl rfl ?_
      refine q_goto rfl ?_
      refine q_iload_n rfl rfl rfl ?_
      refine q_bipush rfl rfl ?_
      refine q_icge rfl rfl (fun c292 => absurd c292 (by decide)) (fun c292 => ?_)
      refine q_bipush rfl rfl ?_
      refine q_iload_n rfl rfl rfl ?_
      refine q_imul rfl rfl (q_tn (z := (-413720633)) rfl ?_)
      refine q_aload_n rfl rfl rfl ?_
      refine q_getf rfl rfl (by decide) rfl rfl ?_
      refine q_iload_n rfl rfl rfl ?_
      refine q_iald rfl rfl (by decide) rfl (by decide) (q_tn (z := 0) rfl ?_)
      refine q_iadd rfl rfl (q_tn (z := (-413720633)) rfl ?_)
      refine q_ist2n rfl rfl rfl rfl ?_
      refine q_icc3 (z := 8) rfl rfl rfl rfl rfl ?_
      refine q_goto rfl ?_
      refine q_iload_n rfl rfl rfl ?_
      refine q_bipush rfl rfl ?_
      refine q_icge rfl rfl (fun c293 => absurd c293 (by decide)) (fun c293 => ?_)
      refine q_bipush rfl rfl ?_
      refine q_iload_n rfl rfl rfl ?_
      refine q_imul rfl rfl (q_tn (z := 59562265) rfl ?_)
      refine q_aload_n rfl rfl rfl ?_
      refine q_getf rfl rfl (by decide) rfl rfl ?_
      refine q_iload_n rfl rfl rfl ?_
      refine q_iald rfl rfl (by decide) rfl (by decide) (q_tn (z := 0) rfl ?_)
      refine q_iadd rfl rfl (q_tn (z := 59562265) rfl ?_)
      refine q_ist2n rfl rfl rfl rfl ?_
      refine q_icc3 (z := 9) rfl rfl rfl rfl rfl ?_
      refine q_goto rfl ?_
      refine q_iload_n rfl rfl rfl ?_
      refine q_bipush rfl rfl ?_
      refine q_icge rfl rfl (fun c294 => absurd c294 (by decide)) (fun c294 => ?_)
      refine q_bipush rfl rfl ?_
      refine q_iload_n rfl rfl rfl ?_
      refine q_imul rfl rfl (q_tn (z := 1846430215) rfl ?_)
      refine q_aload_n rfl rfl rfl ?_
      refine q_getf rfl rfl (by decide) rfl rfl ?_
      refine q_iload_n rfl rfl rfl ?_
      refine q_iald rfl rfl (by decide) rfl (by decide) (q_tn (z := 0) rfl ?_)
      refine q_iadd rfl rfl (q_tn (z := 1846430215) rfl ?_)
      refine q_ist2n rfl rfl rfl rfl ?_
      refine q_icc3 (z := 10) rfl rfl rfl rfl rfl ?_
      refine q_goto rfl ?_
      refine q_iload_n rfl rfl rfl ?_
      refine q_bipush rfl rfl ?_
      refine q_icge rfl rfl (fun c295 => absurd c295 (by decide)) (fun c295 => ?_)
      refine q_bipush rfl rfl ?_
      refine q_iload_n rfl rfl rfl ?_
      refine q_imul rfl rfl (q_tn (z := 1404761817) rfl ?_)
      refine q_aload_n rfl rfl rfl ?_
      refine q_getf rfl rfl (by decide) rfl rfl ?_
      refine q_iload_n rfl rfl rfl ?_
      refine q_iald rfl rfl (by decide) rfl (by decide) (q_tn (z := 0) rfl ?_)
      refine q_iadd rfl rfl (q_tn (z := 1404761817) rfl ?_)
      refine q_ist2n rfl rfl rfl rfl ?_
      refine q_icc3 (z := 11) rfl rfl rfl rfl rfl ?_
      refine q_goto rfl ?_
      refine q_iload_n rfl rfl rfl ?_
      refine q_bipush rfl rfl ?_
      refine q_icge rfl rfl (fun c296 => absurd c296 (by decide)) (fun c296 => ?_)
      refine q_bipush rfl rfl ?_
      refine q_iload_n rfl rfl rfl ?_
      refine q_imul rfl rfl (q_tn (z := 597943367) rfl ?_)
      refine q_aload_n rfl rfl rfl ?_
      refine q_getf rfl rfl (by decide) rfl rfl ?_
      refine q_iload_n rfl rfl rfl ?_
      refine q_iald rfl rfl (by decide) rfl (by decide) (q_tn (z := 0) rfl ?_)
      refine q_iadd rfl rfl (q_tn (z := 597943367) rfl ?_)
      refine q_ist2n rfl rfl rfl rfl ?_
      refine q_icc3 (z := 12) rfl rfl rfl rfl rfl ?_
      refine q_goto rfl ?_
      refine q_iload_n rfl rfl rfl ?_
      refine q_bipush rfl rfl ?_
      refine q_icge rfl rfl (fun c297 => absurd c297 (by decide)) (fun c297 => ?_)
      refine q_bipush rfl rfl ?_
      refine q_iload_n rfl rfl rfl ?_
      refine q_imul rfl rfl (q_tn (z := 1356375193) rfl ?_)
      refine q_aload_n rfl rfl rfl ?_
      refine q_getf rfl rfl (by decide) rfl rfl ?_
      refine q_iload_n rfl rfl rfl ?_
      refine q_iald rfl rfl (by decide) rfl (by decide) (q_tn (z := 0) rfl ?_)
      refine q_iadd rfl rfl (q_tn (z := 1356375193) rfl ?_)
      refine q_ist2n rfl rfl rfl rfl ?_
      refine q_icc3 (z := 13) rfl rfl rfl rfl rfl ?_
      refine q_goto rfl ?_
      refine q_iload_n rfl rfl rfl ?_
      refine q_bipush rfl rfl ?_
      refine q_icge rfl rfl (fun c298 => absurd c298 (by decide)) (fun c298 => ?_)
      refine q_bipush rfl rfl ?_
      refine q_iload_n rfl rfl rfl ?_
      refine q_imul rfl rfl (q_tn (z := (-902041977)) rfl ?_)
      refine q_aload_n rfl rfl rfl ?_
      refine q_getf rfl rfl (by decide) rfl rfl ?_
      refine q_iload_n rfl rfl rfl ?_
      as_aux_lemma =>
        refine q_iald rfl rfl (by decide) rfl (by decide) (q_tn (z := 0) rfl ?_)
        refine q_iadd rfl rfl (q_tn (z := (-902041977)) rfl ?_)
        refine q_ist2n rfl rfl rfl rfl ?_
        refine q_icc3 (z := 14) rfl rfl rfl rfl rfl ?_
        refine q_goto rfl ?_
        refine q_iload_n rfl rfl rfl ?_
        refine q_bipush rfl rfl ?_
        refine q_icge rfl rfl (fun c299 => absurd c299 (by decide)) (fun c299 => ?_)
        refine q_bipush rfl rfl ?_
        refine q_iload_n rfl rfl rfl ?_
        refine q_imul rfl rfl (q_tn (z := 2101469785) rfl ?_)
        refine q_aload_n rfl rfl rfl ?_
        refine q_getf rfl rfl (by decide) rfl rfl ?_
        refine q_iload_n rfl rfl rfl ?_
        refine q_iald rfl rfl (by decide) rfl (by decide) (q_tn (z := 0) rfl ?_)
        refine q_iadd rfl rfl (q_tn (z := 2101469785) rfl ?_)
        refine q_ist2n rfl rfl rfl rfl ?_
        refine q_icc3 (z := 15) rfl rfl rfl rfl rfl ?_
        refine q_goto rfl ?_
        refine q_iload_n rfl rfl rfl ?_
        refine q_bipush rfl rfl ?_
        refine q_icge rfl rfl (fun c300 => absurd c300 (by decide)) (fun c300 => ?_)
        refine q_bipush rfl rfl ?_
        refine q_iload_n rfl rfl rfl ?_
        refine q_imul rfl rfl (q_tn (z := 721053895) rfl ?_)
        refine q_aload_n rfl rfl rfl ?_
        refine q_getf rfl rfl (by decide) rfl rfl ?_
        refine q_iload_n rfl rfl rfl ?_
        refine q_iald rfl rfl (by decide) rfl (by decide) (q_tn (z := 0) rfl ?_)
        refine q_iadd rfl rfl (q_tn (z := 721053895) rfl ?_)
        refine q_ist2n rfl rfl rfl rfl ?_
        refine q_icc3 (z := 16) rfl rfl rfl rfl rfl ?_
        refine q_goto rfl ?_
        refine q_iload_n rfl rfl rfl ?_
        refine q_bipush rfl rfl ?_
        refine q_icge rfl rfl (fun c301 => absurd c301 (by decide)) (fun c301 => ?_)
        refine q_bipush rfl rfl ?_
        refine q_iload_n rfl rfl rfl ?_
        refine q_imul rfl rfl (q_tn (z := 877834265) rfl ?_)
        refine q_aload_n rfl rfl rfl ?_
        refine q_getf rfl rfl (by decide) rfl rfl ?_
        refine q_iload_n rfl rfl rfl ?_
        refine q_iald rfl rfl (by decide) rfl (by decide) (q_tn (z := 0) rfl ?_)
        refine q_iadd rfl rfl (q_tn (z := 877834265) rfl ?_)
        refine q_ist2n rfl rfl rfl rfl ?_
        refine q_icc3 (z := 17) rfl rfl rfl rfl rfl ?_
        refine q_goto rfl ?_
        refine q_iload_n rfl rfl rfl ?_
        refine q_bipush rfl rfl ?_
        refine q_icge rfl rfl (fun c302 => absurd c302 (by decide)) (fun c302 => ?_)
        refine q_bipush rfl rfl ?_
        refine q_iload_n rfl rfl rfl ?_
        refine q_imul rfl rfl (q_tn (z := 1443058439) rfl ?_)
        refine q_aload_n rfl rfl rfl ?_
        refine q_getf rfl rfl (by decide) rfl rfl ?_
        refine q_iload_n rfl rfl rfl ?_
        refine q_iald rfl rfl (by decide) rfl (by decide) (q_tn (z := 0) rfl ?_)
        refine q_iadd rfl rfl (q_tn (z := 1443058439) rfl ?_)
        refine q_ist2n rfl rfl rfl rfl ?_
        refine q_icc3 (z := 18) rfl rfl rfl rfl rfl ?_
        refine q_goto rfl ?_
        refine q_iload_n rfl rfl rfl ?_
        refine q_bipush rfl rfl ?_
        refine q_icge rfl rfl (fun c303 => absurd c303 (by decide)) (fun c303 => ?_)
        refine q_bipush rfl rfl ?_
        refine q_iload_n rfl rfl rfl ?_
        refine q_imul rfl rfl (q_tn (z := 1785138649) rfl ?_)
        refine q_aload_n rfl rfl rfl ?_
        refine q_getf rfl rfl (by decide) rfl rfl ?_
        refine q_iload_n rfl rfl rfl ?_
        refine q_iald rfl rfl (by decide) rfl (by decide) (q_tn (z := 0) rfl ?_)
        refine q_iadd rfl rfl (q_tn (z := 1785138649) rfl ?_)
        refine q_ist2n rfl rfl rfl rfl ?_
        refine q_icc3 (z := 19) rfl rfl rfl rfl rfl ?_
        refine q_goto rfl ?_
        refine q_iload_n rfl rfl rfl ?_
        refine q_bipush rfl rfl ?_
        refine q_icge rfl rfl (fun c304 => absurd c304 (by decide)) (fun c304 => ?_)
        refine q_bipush rfl rfl ?_
        refine q_iload_n rfl rfl rfl ?_
        refine q_imul rfl rfl (q_tn (z := (-495276729)) rfl ?_)
        refine q_aload_n rfl rfl rfl ?_
        refine q_getf rfl rfl (by decide) rfl rfl ?_
        refine q_iload_n rfl rfl rfl ?_
        refine q_iald rfl rfl (by decide) rfl (by decide) (q_tn (z := 0) rfl ?_)
        refine q_iadd rfl rfl (q_tn (z := (-495276729)) rfl ?_)
        refine q_ist2n rfl rfl rfl rfl ?_
        refine q_icc3 (z := 20) rfl rfl rfl rfl rfl ?_
        refine q_goto rfl ?_
        refine q_iload_n rfl rfl rfl ?_
        refine q_bipush rfl rfl ?_
        refine q_icge rfl rfl (fun c305 => ?_) (fun c305 => absurd (by decide) c305)
        refine q_sipush rfl rfl ?_
        refine q_iload_n rfl rfl rfl ?_
        refine q_imul rfl rfl (q_tn (z := 0) rfl ?_)
        refine q_iload_n rfl rfl rfl ?_
        refine q_iload_n rfl rfl rfl ?_
        refine q_bipush rfl rfl ?_
        refine q_iushr rfl rfl (q_tn (z := 463829) rfl ?_)
        refine q_ixor rfl rfl (q_tn (z := (-495075694)) rfl ?_)
        refine q_sipush rfl rfl ?_
        refine q_irem rfl rfl (by decide) (q_tn (z := (-366)) rfl ?_)
        refine q_iload_n rfl rfl rfl ?_
        refine q_iload_n rfl rfl rfl ?_
        refine q_bipush rfl rfl ?_
        refine q_iushr rfl rfl (q_tn (z := 463829) rfl ?_)
        refine q_ixor rfl rfl (q_tn (z := (-495075694)) rfl ?_)
        refine q_sipush rfl rfl ?_
        refine q_irem rfl rfl (by decide) (q_tn (z := (-366)) rfl ?_)
        refine q_ifge rfl rfl (fun c306 => absurd c306 (by decide)) (fun c306 => ?_)
        refine q_iconst rfl rfl ?_
        refine q_goto rfl ?_
        refine q_imul rfl rfl (q_tn (z := 366) rfl ?_)
        refine q_iadd rfl rfl (q_tn (z := 366) rfl ?_)
        refine q_iret rfl rfl trivial ?_
        refine ⟨_, rfl, ?_⟩
        refine q_ist6 rfl rfl rfl rfl ?_
        refine q_aload_n rfl rfl rfl ?_
        refine q_getf rfl rfl (by decide) rfl rfl ?_
        refine q_iload rfl rfl rfl ?_
        refine q_aload_n rfl rfl rfl ?_
        refine q_getf rfl rfl (by decide) rfl rfl ?_
        refine q_iload rfl rfl rfl ?_
        refine q_iald rfl rfl (by decide) rfl (by decide) (q_tn (z := (-1)) rfl ?_)
        refine q_iast rfl rfl (by decide) (FW_58 S hW) (by decide) ?_
        refine q_aload_n rfl rfl rfl ?_
        refine q_getf rfl rfl (by decide) rfl rfl ?_
        refine q_iload rfl rfl rfl ?_
        refine q_iload rfl rfl rfl ?_
        refine q_iast rfl rfl (by decide) rfl (by decide) ?_
        refine q_aload_n rfl rfl rfl ?_
        refine q_getf rfl rfl (by decide) rfl rfl ?_
        refine q_iload_n rfl rfl rfl ?_
        refine q_dup2 rfl rfl ?_
        refine q_iald rfl rfl (by decide) rfl (by decide) (q_tn (z := 0) rfl ?_)
        refine q_iconst rfl rfl ?_
        refine q_iadd rfl rfl (q_tn (z := 1) rfl ?_)
        refine q_iast rfl rfl (by decide) rfl (by decide) ?_
        refine q_iload rfl rfl rfl ?_
        refine q_iret rfl rfl trivial ?_
        refine ⟨_, rfl, ?_⟩
        refine q_ist3n rfl rfl rfl rfl ?_
        refine q_iconst rfl rfl ?_
        refine q_ist4 rfl rfl rfl rfl ?_
        refine q_iload rfl rfl rfl ?_
        refine q_aload_n rfl rfl rfl ?_
        refine q_getf rfl rfl (by decide) rfl rfl ?_
        refine q_iload_n rfl rfl rfl ?_
        refine q_iald rfl rfl (by decide) rfl (by decide) (q_tn (z := 1) rfl ?_)
        refine q_icge rfl rfl (fun c307 => absurd c307 (by decide)) (fun c307 => ?_)
        refine q_iconst rfl rfl ?_
        refine q_ist5 rfl rfl rfl rfl ?_
        refine q_iload rfl rfl rfl ?_
        refine q_iconst rfl rfl ?_
        refine q_icge rfl rfl (fun c308 => absurd c308 (by decide)) (fun c308 => ?_)
        refine q_iconst rfl rfl ?_
        refine q_sipush rfl rfl ?_
        refine q_iload_n rfl rfl rfl ?_
        refine q_imul rfl rfl (q_tn (z := 0) rfl ?_)
        refine q_iload rfl rfl rfl ?_
        refine q_iadd rfl rfl (q_tn (z := 0) rfl ?_)
        refine q_imul rfl rfl (q_tn (z := 0) rfl ?_)
        refine q_iload rfl rfl rfl ?_
        refine q_iadd rfl rfl (q_tn (z := 0) rfl ?_)
        refine q_ist6 rfl rfl rfl rfl ?_
        refine q_aload_n rfl rfl rfl ?_
        refine q_getf rfl rfl (by decide) rfl rfl ?_
        refine q_iload rfl rfl rfl ?_
        refine q_iconst rfl rfl ?_
        refine q_iast rfl rfl (by decide) (FW_59 S hW) (by decide) ?_
        refine q_aload_n rfl rfl rfl ?_
        refine q_iload_n rfl rfl rfl ?_
        refine q_iload rfl rfl rfl ?_
        refine q_cV2v rfl rfl (Or.inl rfl) rfl rfl rfl (by decide) rfl ⟨rfl, rfl⟩ rfl (fun K' hK' => l_sa (R := 0) (by decide) rfl (by decide) rfl rfl rfl rfl rfl hK') ?_
        refine q_iload rfl rfl rfl ?_
        refine q_aload_n rfl rfl rfl ?_
        refine q_getf rfl rfl (by decide) rfl rfl ?_
        refine q_icge rfl rfl (fun c309 => absurd c309 (by decide)) (fun c309 => ?_)
        refine q_aload_n rfl rfl rfl ?_
        refine q_iload rfl rfl rfl ?_
        refine q_iload_n rfl rfl rfl ?_
        refine q_nV2 rfl rfl (Or.inl rfl) rfl rfl rfl (by decide) rfl ⟨rfl, rfl⟩ rfl ?_
        change PQ _ _ _ mm_X12_maySteps 0 [.ref 46, .int 0, .int 0, pm_un, pm_un, pm_un] [] _ _ 0 0 _
        refine q_aload_n rfl rfl rfl ?_
        refine q_iload_n rfl rfl rfl ?_
        refine q_iload_n rfl rfl rfl ?_
        refine q_nV2 rfl rfl (Or.inl rfl) rfl rfl rfl (by decide) rfl ⟨rfl, rfl⟩ rfl ?_
        change PQ _ _ _ mm_X12_canStep 0 [.ref 46, .int 0, .int 0, pm_un] [] _ _ 0 0 _
        refine q_aload_n rfl rfl rfl ?_
        refine q_iload_n rfl rfl rfl ?_
        refine q_nV1 rfl rfl (Or.inl rfl) rfl rfl rfl (by decide) rfl ⟨rfl, rfl⟩ rfl ?_
        change PQ _ _ _ mm_X12_isOver 0 [.ref 46, .int 0] [] _ _ 0 0 _
        refine q_aload_n rfl rfl rfl ?_
        refine q_getf rfl rfl (by decide) rfl rfl ?_
        refine q_iconst rfl rfl ?_
        refine q_iload_n rfl rfl rfl ?_
        refine q_imul rfl rfl (q_tn (z := 0) rfl ?_)
        refine q_iald rfl rfl (by decide) rfl (by decide) (q_tn (z := 10) rfl ?_)
        refine q_bipush rfl rfl ?_
        refine q_iclt rfl rfl (fun c310 => absurd c310 (by decide)) (fun c310 => ?_)
        refine q_iconst rfl rfl ?_
        refine q_goto rfl ?_
        refine q_iret rfl rfl rfl ?_
        refine ⟨_, rfl, ?_⟩
        refine q_ifeq rfl rfl (fun c311 => absurd c311 (by decide)) (fun c311 => ?_)
        refine q_iconst rfl rfl ?_
        refine q_iret rfl rfl rfl ?_
        refine ⟨_, rfl, ?_⟩
        refine q_ifne rfl rfl (fun c312 => ?_) (fun c312 => absurd (by decide) c312)
        refine q_iconst rfl rfl ?_
        refine q_iret rfl rfl rfl ?_
        refine ⟨_, rfl, ?_⟩
        refine q_ifne rfl rfl (fun c313 => ?_) (fun c313 => absurd (by decide) c313)
        refine q_goto rfl ?_
        refine q_icc5 (z := 1) rfl rfl rfl rfl rfl ?_
        refine q_goto rfl ?_
        refine q_iload rfl rfl rfl ?_
        refine q_iconst rfl rfl ?_
        refine q_icge rfl rfl (fun c314 => absurd c314 (by decide)) (fun c314 => ?_)
        refine q_iconst rfl rfl ?_
        refine q_sipush rfl rfl ?_
        refine q_iload_n rfl rfl rfl ?_
        refine q_imul rfl rfl (q_tn (z := 0) rfl ?_)
        refine q_iload rfl rfl rfl ?_
        refine q_iadd rfl rfl (q_tn (z := 0) rfl ?_)
        refine q_imul rfl rfl (q_tn (z := 0) rfl ?_)
        refine q_iload rfl rfl rfl ?_
        refine q_iadd rfl rfl (q_tn (z := 1) rfl ?_)
        refine q_ist6 rfl rfl rfl rfl ?_
        refine q_aload_n rfl rfl rfl ?_
        refine q_getf rfl rfl (by decide) rfl rfl ?_
        refine q_iload rfl rfl rfl ?_
        refine q_iconst rfl rfl ?_
        refine q_iast rfl rfl (by decide) rfl (by decide) ?_
        refine q_aload_n rfl rfl rfl ?_
        refine q_iload_n rfl rfl rfl ?_
        refine q_iload rfl rfl rfl ?_
        refine q_cV2v rfl rfl (Or.inl rfl) rfl rfl rfl (by decide) rfl ⟨rfl, rfl⟩ rfl (fun K' hK' => l_sa (R := 0) (by decide) rfl (by decide) rfl rfl rfl rfl rfl hK') ?_
        refine q_iload rfl rfl rfl ?_
        refine q_aload_n rfl rfl rfl ?_
        refine q_getf rfl rfl (by decide) rfl rfl ?_
        refine q_icge rfl rfl (fun c315 => ?_) (fun c315 => absurd (by decide) c315)
        refine q_icc5 (z := 2) rfl rfl rfl rfl rfl ?_
        refine q_goto rfl ?_
        refine q_iload rfl rfl rfl ?_
        refine q_iconst rfl rfl ?_
        refine q_icge rfl rfl (fun c316 => absurd c316 (by decide)) (fun c316 => ?_)
        refine q_iconst rfl rfl ?_
        refine q_sipush rfl rfl ?_
        refine q_iload_n rfl rfl rfl ?_
        refine q_imul rfl rfl (q_tn (z := 0) rfl ?_)
        refine q_iload rfl rfl rfl ?_
        refine q_iadd rfl rfl (q_tn (z := 0) rfl ?_)
        refine q_imul rfl rfl (q_tn (z := 0) rfl ?_)
        refine q_iload rfl rfl rfl ?_
        refine q_iadd rfl rfl (q_tn (z := 2) rfl ?_)
        refine q_ist6 rfl rfl rfl rfl ?_
        refine q_aload_n rfl rfl rfl ?_
        refine q_getf rfl rfl (by decide) rfl rfl ?_
        refine q_iload rfl rfl rfl ?_
        refine q_iconst rfl rfl ?_
        refine q_iast rfl rfl (by decide) rfl (by decide) ?_
        refine q_aload_n rfl rfl rfl ?_
        refine q_iload_n rfl rfl rfl ?_
        refine q_iload rfl rfl rfl ?_
        refine q_cV2v rfl rfl (Or.inl rfl) rfl rfl rfl (by decide) rfl ⟨rfl, rfl⟩ rfl (fun K' hK' => l_sa (R := 0) (by decide) rfl (by decide) rfl rfl rfl rfl rfl hK') ?_
        refine q_iload rfl rfl rfl ?_
        refine q_aload_n rfl rfl rfl ?_
        refine q_getf rfl rfl (by decide) rfl rfl ?_
        refine q_icge rfl rfl (fun c317 => ?_) (fun c317 => absurd (by decide) c317)
        refine q_icc5 (z := 3) rfl rfl rfl rfl rfl ?_
        refine q_goto rfl ?_
        refine q_iload rfl rfl rfl ?_
        refine q_iconst rfl rfl ?_
        refine q_icge rfl rfl (fun c318 => ?_) (fun c318 => absurd (by decide) c318)
        refine q_icc4 (z := 1) rfl rfl rfl rfl rfl ?_
        refine q_goto rfl ?_
        refine q_iload rfl rfl rfl ?_
        refine q_aload_n rfl rfl rfl ?_
        refine q_getf rfl rfl (by decide) rfl rfl ?_
        refine q_iload_n rfl rfl rfl ?_
        refine q_iald rfl rfl (by decide) rfl (by decide) (q_tn (z := 1) rfl ?_)
        refine q_icge rfl rfl (fun c319 => ?_) (fun c319 => absurd (by decide) c319)
        refine q_iconst rfl rfl ?_
        refine q_iret rfl rfl rfl ?_
        refine ⟨_, rfl, ?_⟩
        refine q_ifeq rfl rfl (fun c320 => absurd c320 (by decide)) (fun c320 => ?_)
        refine q_iconst rfl rfl ?_
        refine q_goto rfl ?_
        refine q_iast rfl rfl (by decide) (FW_62 S hW) (by decide) ?_
        refine q_iload_n rfl rfl rfl ?_
        refine q_ifne rfl rfl (fun c321 => ?_) (fun c321 => absurd (by decide) c321)
        refine q_aload_n rfl rfl rfl ?_
        refine q_iconst rfl rfl ?_
        refine q_putf rfl rfl (by decide) rfl (by decide) rfl rfl ?_
        refine q_aload_n rfl rfl rfl ?_
        refine q_getf rfl rfl (by decide) rfl rfl ?_
        refine q_iload_n rfl rfl rfl ?_
        refine q_aload_n rfl rfl rfl ?_
        refine q_getf rfl rfl (by decide) rfl rfl ?_
        refine q_iload_n rfl rfl rfl ?_
        refine q_iald rfl rfl (by decide) rfl (by decide) (q_tn (z := 1) rfl ?_)
        refine q_iast rfl rfl (by decide) (FW_63 S hW) (by decide) ?_
        refine q_iconst rfl rfl ?_
        refine q_ist3n rfl rfl rfl rfl ?_
        refine q_iload_n rfl rfl rfl ?_
        refine q_iconst rfl rfl ?_
        refine q_icge rfl rfl (fun c322 => absurd c322 (by decide)) (fun c322 => ?_)
        refine q_aload_n rfl rfl rfl ?_
        refine q_getf rfl rfl (by decide) rfl rfl ?_
        refine q_iconst rfl rfl ?_
        refine q_iload_n rfl rfl rfl ?_
        refine q_imul rfl rfl (q_tn (z := 0) rfl ?_)
        refine q_iload_n rfl rfl rfl ?_
        refine q_iadd rfl rfl (q_tn (z := 0) rfl ?_)
        refine q_iconst rfl rfl ?_
        refine q_iast rfl rfl (by decide) (FW_64 S hW) (by decide) ?_
        refine q_icc3 (z := 1) rfl rfl rfl rfl rfl ?_
        refine q_goto rfl ?_
        refine q_iload_n rfl rfl rfl ?_
        refine q_iconst rfl rfl ?_
        refine q_icge rfl rfl (fun c323 => absurd c323 (by decide)) (fun c323 => ?_)
        refine q_aload_n rfl rfl rfl ?_
        refine q_getf rfl rfl (by decide) rfl rfl ?_
        refine q_iconst rfl rfl ?_
        refine q_iload_n rfl rfl rfl ?_
        refine q_imul rfl rfl (q_tn (z := 0) rfl ?_)
        refine q_iload_n rfl rfl rfl ?_
        refine q_iadd rfl rfl (q_tn (z := 1) rfl ?_)
        refine q_iconst rfl rfl ?_
        refine q_iast rfl rfl (by decide) rfl (by decide) ?_
        refine q_icc3 (z := 2) rfl rfl rfl rfl rfl ?_
        refine q_goto rfl ?_
        refine q_iload_n rfl rfl rfl ?_
        refine q_iconst rfl rfl ?_
        refine q_icge rfl rfl (fun c324 => absurd c324 (by decide)) (fun c324 => ?_)
        refine q_aload_n rfl rfl rfl ?_
        refine q_getf rfl rfl (by decide) rfl rfl ?_
        refine q_iconst rfl rfl ?_
        refine q_iload_n rfl rfl rfl ?_
        refine q_imul rfl rfl (q_tn (z := 0) rfl ?_)
        refine q_iload_n rfl rfl rfl ?_
        refine q_iadd rfl rfl (q_tn (z := 2) rfl ?_)
        refine q_iconst rfl rfl ?_
        refine q_iast rfl rfl (by decide) rfl (by decide) ?_
        refine q_icc3 (z := 3) rfl rfl rfl rfl rfl ?_
        refine q_goto rfl ?_
        refine q_iload_n rfl rfl rfl ?_
        refine q_iconst rfl rfl ?_
        refine q_icge rfl rfl (fun c325 => absurd c325 (by decide)) (fun c325 => ?_)
        refine q_aload_n rfl rfl rfl ?_
        refine q_getf rfl rfl (by decide) rfl rfl ?_
        refine q_iconst rfl rfl ?_
        refine q_iload_n rfl rfl rfl ?_
        refine q_imul rfl rfl (q_tn (z := 0) rfl ?_)
        refine q_iload_n rfl rfl rfl ?_
        refine q_iadd rfl rfl (q_tn (z := 3) rfl ?_)
        refine q_iconst rfl rfl ?_
        refine q_iast rfl rfl (by decide) rfl (by decide) ?_
        refine q_icc3 (z := 4) rfl rfl rfl rfl rfl ?_
        refine q_goto rfl ?_
        refine q_iload_n rfl rfl rfl ?_
        refine q_iconst rfl rfl ?_
        refine q_icge rfl rfl (fun c326 => ?_) (fun c326 => absurd (by decide) c326)
        refine q_iconst rfl rfl ?_
        refine q_ist3n rfl rfl rfl rfl ?_
        refine q_iload_n rfl rfl rfl ?_
        refine q_aload_n rfl rfl rfl ?_
        refine q_getf rfl rfl (by decide) rfl rfl ?_
        refine q_iload_n rfl rfl rfl ?_
        refine q_iald rfl rfl (by decide) rfl (by decide) (q_tn (z := 1) rfl ?_)
        refine q_icge rfl rfl (fun c327 => absurd c327 (by decide)) (fun c327 => ?_)
        refine q_aload_n rfl rfl rfl ?_
        refine q_iload_n rfl rfl rfl ?_
        refine q_iload_n rfl rfl rfl ?_
        refine q_cV2v rfl rfl (Or.inl rfl) rfl rfl rfl (by decide) rfl ⟨rfl, rfl⟩ rfl (fun K' hK' => l_sa (R := 0) (by decide) rfl (by decide) rfl rfl rfl rfl rfl hK') ?_
        refine q_aload_n rfl rfl rfl ?_
        refine q_nV0 rfl rfl (Or.inl rfl) rfl rfl rfl (by decide) rfl ⟨rfl, rfl⟩ rfl ?_
        change PQ _ _ _ mm_X12_isEnd 0 [.ref 46, pm_un, pm_un] [] _ _ 0 0 _
        refine q_iconst rfl rfl ?_
        refine q_ist1n rfl rfl rfl rfl ?_
        refine q_iconst rfl rfl ?_
        refine q_ist2n rfl rfl rfl rfl ?_
        refine q_iload_n rfl rfl rfl ?_
        refine q_aload_n rfl rfl rfl ?_
        refine q_getf rfl rfl (by decide) rfl rfl ?_
        refine q_icge rfl rfl (fun c328 => absurd c328 (by decide)) (fun c328 => ?_)
        refine q_iload_n rfl rfl rfl ?_
        refine q_ifeq rfl rfl (fun c329 => absurd c329 (by decide)) (fun c329 => ?_)
        refine q_aload_n rfl rfl rfl ?_
        refine q_iload_n rfl rfl rfl ?_
        refine q_nV1 rfl rfl (Or.inl rfl) rfl rfl rfl (by decide) rfl ⟨rfl, rfl⟩ rfl ?_
        change PQ _ _ _ mm_X12_isOver 0 [.ref 46, .int 0] [] _ _ 0 0 _
        refine q_aload_n rfl rfl rfl ?_
        refine q_getf rfl rfl (by decide) rfl rfl ?_
        refine q_iconst rfl rfl ?_
        refine q_iload_n rfl rfl rfl ?_
        refine q_imul rfl rfl (q_tn (z := 0) rfl ?_)
        refine q_iald rfl rfl (by decide) rfl (by decide) (q_tn (z := 10) rfl ?_)
        refine q_bipush rfl rfl ?_
        refine q_iclt rfl rfl (fun c330 => absurd c330 (by decide)) (fun c330 => ?_)
        refine q_iconst rfl rfl ?_
        refine q_goto rfl ?_
        refine q_iret rfl rfl rfl ?_
        refine ⟨_, rfl, ?_⟩
        refine q_ifeq rfl rfl (fun c331 => absurd c331 (by decide)) (fun c331 => ?_)
        refine q_iconst rfl rfl ?_
        refine q_goto rfl ?_
        refine q_ist1n rfl rfl rfl rfl ?_
        refine q_icc2 (z := 1) rfl rfl rfl rfl rfl ?_
        refine q_goto rfl ?_
        refine q_iload_n rfl rfl rfl ?_
        refine q_aload_n rfl rfl rfl ?_
        refine q_getf rfl rfl (by decide) rfl rfl ?_
        refine q_icge rfl rfl (fun c332 => ?_) (fun c332 => absurd (by decide) c332)
        refine q_iload_n rfl rfl rfl ?_
        refine q_iret rfl rfl rfl ?_
        refine ⟨_, rfl, ?_⟩
        refine q_ifne rfl rfl (fun c333 => absurd c333 (by decide)) (fun c333 => ?_)
        refine q_iconst rfl rfl ?_
        refine q_ist4 rfl rfl rfl rfl ?_
        refine q_iload rfl rfl rfl ?_
        refine q_iconst rfl rfl ?_
        refine q_icge rfl rfl (fun c334 => absurd c334 (by decide)) (fun c334 => ?_)
        refine q_aload_n rfl rfl rfl ?_
        refine q_getf rfl rfl (by decide) rfl rfl ?_
        refine q_iconst rfl rfl ?_
        refine q_iload_n rfl rfl rfl ?_
        refine q_imul rfl rfl (q_tn (z := 0) rfl ?_)
        refine q_iload rfl rfl rfl ?_
        refine q_iadd rfl rfl (q_tn (z := 0) rfl ?_)
        refine q_dup2 rfl rfl ?_
        refine q_iald rfl rfl (by decide) rfl (by decide) (q_tn (z := 0) rfl ?_)
        refine q_iconst rfl rfl ?_
        refine q_aload_n rfl rfl rfl ?_
        refine q_getf rfl rfl (by decide) rfl rfl ?_
        refine q_bipush rfl rfl ?_
        refine q_iload rfl rfl rfl ?_
        refine q_iadd rfl rfl (q_tn (z := 12) rfl ?_)
        refine q_iald rfl rfl (by decide) rfl (by decide) (q_tn (z := 0) rfl ?_)
        refine q_ishl rfl rfl (q_tn (z := 1) rfl ?_)
        refine q_ior rfl rfl (q_tn (z := 1) rfl ?_)
        refine q_iast rfl rfl (by decide) rfl (by decide) ?_
        refine q_icc4 (z := 1) rfl rfl rfl rfl rfl ?_
        refine q_goto rfl ?_
        refine q_iload rfl rfl rfl ?_
        refine q_iconst rfl rfl ?_
        refine q_icge rfl rfl (fun c335 => absurd c335 (by decide)) (fun c335 => ?_)
        refine q_aload_n rfl rfl rfl ?_
        refine q_getf rfl rfl (by decide) rfl rfl ?_
        refine q_iconst rfl rfl ?_
        refine q_iload_n rfl rfl rfl ?_
        refine q_imul rfl rfl (q_tn (z := 0) rfl ?_)
        refine q_iload rfl rfl rfl ?_
        refine q_iadd rfl rfl (q_tn (z := 1) rfl ?_)
        refine q_dup2 rfl rfl ?_
        refine q_iald rfl rfl (by decide) rfl (by decide) (q_tn (z := 0) rfl ?_)
        refine q_iconst rfl rfl ?_
        refine q_aload_n rfl rfl rfl ?_
        refine q_getf rfl rfl (by decide) rfl rfl ?_
        refine q_bipush rfl rfl ?_
        refine q_iload rfl rfl rfl ?_
        refine q_iadd rfl rfl (q_tn (z := 13) rfl ?_)
        refine q_iald rfl rfl (by decide) rfl (by decide) (q_tn (z := 0) rfl ?_)
        refine q_ishl rfl rfl (q_tn (z := 1) rfl ?_)
        refine q_ior rfl rfl (q_tn (z := 1) rfl ?_)
        refine q_iast rfl rfl (by decide) rfl (by decide) ?_
        refine q_icc4 (z := 2) rfl rfl rfl rfl rfl ?_
        refine q_goto rfl ?_
        refine q_iload rfl rfl rfl ?_
        refine q_iconst rfl rfl ?_
        refine q_icge rfl rfl (fun c336 => absurd c336 (by decide)) (fun c336 => ?_)
        refine q_aload_n rfl rfl rfl ?_
        refine q_getf rfl rfl (by decide) rfl rfl ?_
        refine q_iconst rfl rfl ?_
        refine q_iload_n rfl rfl rfl ?_
        refine q_imul rfl rfl (q_tn (z := 0) rfl ?_)
        refine q_iload rfl rfl rfl ?_
        refine q_iadd rfl rfl (q_tn (z := 2) rfl ?_)
        refine q_dup2 rfl rfl ?_
        refine q_iald rfl rfl (by decide) rfl (by decide) (q_tn (z := 0) rfl ?_)
        refine q_iconst rfl rfl ?_
        refine q_aload_n rfl rfl rfl ?_
        refine q_getf rfl rfl (by decide) rfl rfl ?_
        refine q_bipush rfl rfl ?_
        refine q_iload rfl rfl rfl ?_
        refine q_iadd rfl rfl (q_tn (z := 14) rfl ?_)
        refine q_iald rfl rfl (by decide) rfl (by decide) (q_tn (z := 0) rfl ?_)
        refine q_ishl rfl rfl (q_tn (z := 1) rfl ?_)
        refine q_ior rfl rfl (q_tn (z := 1) rfl ?_)
        refine q_iast rfl rfl (by decide) rfl (by decide) ?_
        refine q_icc4 (z := 3) rfl rfl rfl rfl rfl ?_
        refine q_goto rfl ?_
        refine q_iload rfl rfl rfl ?_
        refine q_iconst rfl rfl ?_
        refine q_icge rfl rfl (fun c337 => absurd c337 (by decide)) (fun c337 => ?_)
        refine q_aload_n rfl rfl rfl ?_
        refine q_getf rfl rfl (by decide) rfl rfl ?_
        refine q_iconst rfl rfl ?_
        refine q_iload_n rfl rfl rfl ?_
        refine q_imul rfl rfl (q_tn (z := 0) rfl ?_)
        refine q_iload rfl rfl rfl ?_
        refine q_iadd rfl rfl (q_tn (z := 3) rfl ?_)
        refine q_dup2 rfl rfl ?_
        refine q_iald rfl rfl (by decide) rfl (by decide) (q_tn (z := 0) rfl ?_)
        refine q_iconst rfl rfl ?_
        refine q_aload_n rfl rfl rfl ?_
        refine q_getf rfl rfl (by decide) rfl rfl ?_
        refine q_bipush rfl rfl ?_
        refine q_iload rfl rfl rfl ?_
        refine q_iadd rfl rfl (q_tn (z := 15) rfl ?_)
        refine q_iald rfl rfl (by decide) rfl (by decide) (q_tn (z := 0) rfl ?_)
        refine q_ishl rfl rfl (q_tn (z := 1) rfl ?_)
        refine q_ior rfl rfl (q_tn (z := 1) rfl ?_)
        refine q_iast rfl rfl (by decide) rfl (by decide) ?_
        refine q_icc4 (z := 4) rfl rfl rfl rfl rfl ?_
        refine q_goto rfl ?_
        refine q_iload rfl rfl rfl ?_
        refine q_iconst rfl rfl ?_
        refine q_icge rfl rfl (fun c338 => ?_) (fun c338 => absurd (by decide) c338)
        refine q_icc3 (z := 1) rfl rfl rfl rfl rfl ?_
        refine q_goto rfl ?_
        refine q_iload_n rfl rfl rfl ?_
        refine q_aload_n rfl rfl rfl ?_
        refine q_getf rfl rfl (by decide) rfl rfl ?_
        refine q_iload_n rfl rfl rfl ?_
        refine q_iald rfl rfl (by decide) rfl (by decide) (q_tn (z := 1) rfl ?_)
        refine q_icge rfl rfl (fun c339 => ?_) (fun c339 => absurd (by decide) c339)
        refine q_aload_n rfl rfl rfl ?_
        refine q_getf rfl rfl (by decide) rfl rfl ?_
        refine q_iload_n rfl rfl rfl ?_
        refine q_iald rfl rfl (by decide) rfl (by decide) (q_tn (z := 1) rfl ?_)
        refine q_iconst rfl rfl ?_
        refine q_icne rfl rfl (fun c340 => absurd c340 (by decide)) (fun c340 => ?_)
        refine q_iconst rfl rfl ?_
        refine q_iret rfl rfl rfl ?_
        refine ⟨_, rfl, ?_⟩
        refine q_ifeq rfl rfl (fun c341 => ?_) (fun c341 => absurd (by decide) c341)
        refine q_iload_n rfl rfl rfl ?_
        refine q_aload_n rfl rfl rfl ?_
        refine q_getf rfl rfl (by decide) rfl rfl ?_
        refine q_iconst rfl rfl ?_
        refine q_iald rfl rfl (by decide) rfl (by decide) (q_tn (z := 1) rfl ?_)
        refine q_iclt rfl rfl (fun c342 => absurd c342 (i_lt_f (i_nlt c68) rfl)) (fun c342 => ?_)
        refine q_iconst rfl rfl ?_
        refine q_goto rfl ?_
        refine q_iret rfl rfl trivial ?_
        refine ⟨_, rfl, ?_⟩
        refine q_ifeq rfl rfl (fun c343 => absurd c343 (by decide)) (fun c343 => ?_)
        refine q_aload_n rfl rfl rfl ?_
        refine q_iload_n rfl rfl rfl ?_
        refine q_nV1 rfl rfl (Or.inl rfl) rfl rfl rfl (by decide) rfl ⟨rfl, rfl⟩ rfl ?_
        change PQ _ _ _ mm_X12_lacks 0 [.ref 46, .int x1] [] _ _ 0 0 _
        refine q_iload_n rfl rfl rfl ?_
        refine q_ifge rfl rfl (fun c344 => ?_) (fun c344 => absurd (i_ge_t (i_nlt c68) rfl) c344)
        refine q_aload_n rfl rfl rfl ?_
        refine q_iconst rfl rfl ?_
        refine q_nV1 rfl rfl (Or.inl rfl) rfl rfl rfl (by decide) rfl ⟨rfl, rfl⟩ rfl ?_
        change PQ _ _ _ mm_X12_isSpent 0 [.ref 46, .int 0, pm_un, pm_un, pm_un] [] _ _ 0 0 _
        refine q_iload_n rfl rfl rfl ?_
        refine q_ifne rfl rfl (fun c345 => ?_) (fun c345 => absurd (by decide) c345)
        refine q_iconst rfl rfl ?_
        refine q_goto rfl ?_
        refine q_ist2n rfl rfl rfl rfl ?_
        refine q_aload_n rfl rfl rfl ?_
        refine q_iconst rfl rfl ?_
        refine q_putf rfl rfl (by decide) rfl (by decide) rfl trivial ?_
        refine q_aload_n rfl rfl rfl ?_
        refine q_getf rfl rfl (by decide) rfl rfl ?_
        refine q_iload_n rfl rfl rfl ?_
        refine q_iald rfl rfl (by decide) rfl (by decide) (q_tn (z := 1) rfl ?_)
        refine q_ifeq rfl rfl (fun c346 => absurd c346 (by decide)) (fun c346 => ?_)
        refine q_iload_n rfl rfl rfl ?_
        refine q_ifgt rfl rfl (fun c347 => absurd c347 (by decide)) (fun c347 => ?_)
        refine q_aload_n rfl rfl rfl ?_
        refine q_getf rfl rfl (by decide) rfl rfl ?_
        refine q_ifeq rfl rfl (fun c348 => absurd c348 (by decide)) (fun c348 => ?_)
        refine q_aload_n rfl rfl rfl ?_
        refine q_getf rfl rfl (by decide) rfl rfl ?_
        refine q_iload_n rfl rfl rfl ?_
        refine q_iald rfl rfl (by decide) rfl (by decide) (q_tn (z := 1) rfl ?_)
        refine q_iconst rfl rfl ?_
        refine q_icne rfl rfl (fun c349 => absurd c349 (by decide)) (fun c349 => ?_)
        refine q_iconst rfl rfl ?_
        refine q_iret rfl rfl rfl ?_
        refine ⟨_, rfl, ?_⟩
        refine q_ifeq rfl rfl (fun c350 => ?_) (fun c350 => absurd (by decide) c350)
        refine q_iload_n rfl rfl rfl ?_
        refine q_aload_n rfl rfl rfl ?_
        refine q_getf rfl rfl (by decide) rfl rfl ?_
        refine q_iconst rfl rfl ?_
        refine q_iald rfl rfl (by decide) rfl (by decide) (q_tn (z := 1) rfl ?_)
        refine q_iclt rfl rfl (fun c351 => absurd c351 (i_lt_f (i_nlt c68) rfl)) (fun c351 => ?_)
        refine q_iconst rfl rfl ?_
        refine q_goto rfl ?_
        refine q_iret rfl rfl trivial ?_
        refine ⟨_, rfl, ?_⟩
        refine q_goto rfl ?_
        refine q_iret rfl rfl trivial ?_
        refine ⟨_, rfl, ?_⟩
        refine q_iceq rfl rfl (fun c352 => ?_) (fun c352 => absurd (by decide) c352)
        refine q_icc4 (z := 6) rfl rfl rfl rfl rfl ?_
        refine q_goto rfl ?_
        refine q_iload rfl rfl rfl ?_
        refine q_aload_nF rfl rfl rfl ?_
        refine q_alenX (x := 6) rfl rfl rfl ?_
        refine q_bipush rfl rfl ?_
        refine q_isub rfl rfl (q_tn (z := 0) rfl ?_)
        refine q_icgt rfl rfl (fun c353 => ?_) (fun c353 => absurd (by decide) c353)
        refine q_iconst rfl rfl ?_
        refine q_iret rfl rfl rfl ?_
        exact hK _ _
  · refine q_iconst rfl rfl ?_
    refine q_iret rfl rfl trivial ?_
    refine ⟨_, rfl, ?_⟩
    refine q_ist2n rfl rfl rfl rfl ?_
    refine q_iload_n rfl rfl rfl ?_
    refine q_ifeq rfl rfl (fun c354 => absurd c354 (by decide)) (fun c354 => ?_)
    refine q_iload_n rfl rfl rfl ?_
    refine q_goto rfl ?_
    refine q_iret rfl rfl trivial ?_
    refine ⟨_, rfl, ?_⟩
    refine q_aload_n rfl rfl rfl ?_
    refine q_aload_nF rfl rfl rfl ?_
    refine q_iload rfl rfl rfl ?_
    refine q_iconst rfl rfl ?_
    refine q_iadd rfl rfl (q_tn (z := 1) rfl ?_)
    refine q_ialdX (x := x1) rfl rfl rfl hx1 ?_
    refine q_nV1 rfl rfl (Or.inl rfl) rfl rfl rfl (by decide) (FW_46 S hW) ⟨rfl, rfl⟩ rfl ?_
    change PQ _ _ _ mm_X12_way 0 [.ref 46, .int x1] [] _ _ 0 0 _
    refine q_aload_n rfl rfl rfl ?_
    refine q_iload_n rfl rfl rfl ?_
    refine q_nV1 rfl rfl (Or.inl rfl) rfl rfl rfl (by decide) (FW_46 S hW) ⟨rfl, rfl⟩ rfl ?_
    change PQ _ _ _ mm_X12_lacks 0 [.ref 46, .int x1] [] _ _ 0 0 _
    refine q_iload_n rfl rfl rfl ?_
    refine q_ifge rfl rfl (fun c355 => absurd c355 (i_ge_f (i_ltle (i_nle c1) (B := (-1)) rfl) rfl)) (fun c355 => ?_)
    refine q_iconst rfl rfl ?_
    refine q_goto rfl ?_
    refine q_iret rfl rfl trivial ?_
    refine ⟨_, rfl, ?_⟩
    refine q_ifeq rfl rfl (fun c356 => absurd c356 (by decide)) (fun c356 => ?_)
    refine q_aload_n rfl rfl rfl ?_
    refine q_iload_n rfl rfl rfl ?_
    refine q_nV1 rfl rfl (Or.inl rfl) rfl rfl rfl (by decide) (FW_46 S hW) ⟨rfl, rfl⟩ rfl ?_
    change PQ _ _ _ mm_X12_lacks 0 [.ref 46, .int x1] [] _ _ 0 0 _
    refine q_iload_n rfl rfl rfl ?_
    refine q_ifge rfl rfl (fun c357 => absurd c357 (i_ge_f (i_ltle (i_nle c1) (B := (-1)) rfl) rfl)) (fun c357 => ?_)
    refine q_iconst rfl rfl ?_
    refine q_goto rfl ?_
    refine q_iret rfl rfl trivial ?_
    refine ⟨_, rfl, ?_⟩
    refine q_goto rfl ?_
    refine q_iret rfl rfl trivial ?_
    refine ⟨_, rfl, ?_⟩
    refine q_iceq rfl rfl (fun c358 => ?_) (fun c358 => absurd (by decide) c358)
    refine q_icc4 (z := 6) rfl rfl rfl rfl rfl ?_
    refine q_goto rfl ?_
    refine q_iload rfl rfl rfl ?_
    refine q_aload_nF rfl rfl rfl ?_
    refine q_alenX (x := 6) rfl rfl rfl ?_
    refine q_bipush rfl rfl ?_
    refine q_isub rfl rfl (q_tn (z := 0) rfl ?_)
    refine q_icgt rfl rfl (fun c359 => ?_) (fun c359 => absurd (by decide) c359)
    refine q_iconst rfl rfl ?_
    refine q_iret rfl rfl rfl ?_
    exact hK _ _
set_option maxHeartbeats 40000000 in
set_option maxRecDepth 20000 in
theorem t_op12 {S : Nat → pm_E} (hW : FW S) {x1 x2 x3 x4 x5 : Int32} (hx1 : xs 1 = x1) (hx2 : xs 2 = x2) (hx3 : xs 3 = x3) (hx4 : xs 4 = x4) (hx5 : xs 5 = x5) (hK : ∀ S n, K (some (.int 1)) S n) : PQ (j_SL 6) (j_SV xs) EX mm_L_law 556 [.float 5, .ref 0, .ref 46, .ref 81, .int 0, pm_un, pm_un, pm_un] [] S 82 82 190091 K := by
  refine q_aload_n rfl rfl rfl ?_
  refine q_aload_nF rfl rfl rfl ?_
  refine q_iload rfl rfl rfl ?_
  refine q_iconst rfl rfl ?_
  refine q_iadd rfl rfl (q_tn (z := 1) rfl ?_)
  refine q_ialdX (x := x1) rfl rfl rfl hx1 ?_
  refine q_aload_nF rfl rfl rfl ?_
  refine q_iload rfl rfl rfl ?_
  refine q_iconst rfl rfl ?_
  refine q_iadd rfl rfl (q_tn (z := 2) rfl ?_)
  refine q_ialdX (x := x2) rfl rfl rfl hx2 ?_
  refine q_nV2 rfl rfl (Or.inl rfl) rfl rfl rfl (by decide) (FW_0 S hW) ⟨rfl, rfl⟩ rfl ?_
  change PQ _ _ _ mm_X11_step 0 [.ref 0, .int x1, .int x2, pm_un] [] _ _ 0 0 _
  refine q_iload_n rfl rfl rfl ?_
  refine q_ifge rfl rfl (fun c1 => ?_) (fun c1 => ?_)
  · refine q_aload_n rfl rfl rfl ?_
    refine q_iload_n rfl rfl rfl ?_
    refine q_nV1 rfl rfl (Or.inl rfl) rfl rfl rfl (by decide) (FW_0 S hW) ⟨rfl, rfl⟩ rfl ?_
    change PQ _ _ _ mm_X11_refusalOf 0 [.ref 0, .int x1, pm_un] [] _ _ 0 0 _
    refine q_iload_n rfl rfl rfl ?_
    refine q_ifge rfl rfl (fun c2 => ?_) (fun c2 => ?_)
    · refine q_aload_n rfl rfl rfl ?_
      refine q_iconst rfl rfl ?_
      refine q_nV1 rfl rfl (Or.inl rfl) rfl rfl rfl (by decide) (FW_0 S hW) ⟨rfl, rfl⟩ rfl ?_
      change PQ _ _ _ mm_X11_sizeOf 0 [.ref 0, .int 0, pm_un] [] _ _ 0 0 _
      refine q_aload_n rfl rfl rfl ?_
      refine q_getf rfl rfl (by decide) (FW_0 S hW) rfl ?_
      refine q_iload_n rfl rfl rfl ?_
      refine q_iald rfl rfl (by decide) (FW_44 S hW) (by decide) (q_tn (z := 0) rfl ?_)
      refine q_ifne rfl rfl (fun c3 => ?_) (fun c3 => absurd (by decide) c3)
      refine q_iload_n rfl rfl rfl ?_
      refine q_ifne rfl rfl (fun c4 => ?_) (fun c4 => absurd (by decide) c4)
      refine q_aload_n rfl rfl rfl ?_
      refine q_getf rfl rfl (by decide) (FW_0 S hW) rfl ?_
      refine q_goto rfl ?_
      refine q_ast2n rfl rfl rfl rfl ?_
      refine q_aload_n rfl rfl rfl ?_
      refine q_getf rfl rfl (by decide) (FW_0 S hW) rfl ?_
      refine q_iload_n rfl rfl rfl ?_
      refine q_putf rfl rfl (by decide) (FW_7 S hW) (by decide) rfl trivial ?_
      refine q_aload_n rfl rfl rfl ?_
      refine q_aload_n rfl rfl rfl ?_
      refine q_getf rfl rfl (by decide) (FW_0 S hW) rfl ?_
      refine q_iconst rfl rfl ?_
      refine q_nV2v rfl rfl (Or.inl rfl) rfl rfl rfl (by decide) (FW_8 S hW) ⟨rfl, rfl⟩ rfl ?_
      change PQ _ _ _ mm_X7_explore 0 [.ref 8, .ref 7, .int 0, pm_un] [] _ _ 0 0 _
      refine q_aload_n rfl rfl rfl ?_
      refine q_nV0v rfl rfl (Or.inl rfl) rfl rfl rfl (by decide) (FW_8 S hW) ⟨rfl, rfl⟩ rfl ?_
      change PQ _ _ _ mm_X7_clear 0 [.ref 8, pm_un] [] _ _ 0 0 _
      refine q_iconst rfl rfl ?_
      refine q_ist1n rfl rfl rfl rfl ?_
      refine q_iload_n rfl rfl rfl ?_
      refine q_aload_n rfl rfl rfl ?_
      refine q_getf rfl rfl (by decide) (FW_8 S hW) rfl ?_
      refine q_icge rfl rfl (fun c5 => ?_) (fun c5 => absurd (by decide) c5)
      refine q_aload_n rfl rfl rfl ?_
      refine q_iconst rfl rfl ?_
      refine q_putf rfl rfl (by decide) (FW_8 S hW) (by decide) rfl trivial ?_
      refine q_aload_n rfl rfl rfl ?_
      refine q_iconst rfl rfl ?_
      refine q_putf rfl rfl (by decide) rfl (by decide) rfl rfl ?_
      refine q_aload_n rfl rfl rfl ?_
      refine q_iconst rfl rfl ?_
      refine q_putf rfl rfl (by decide) rfl (by decide) rfl rfl ?_
      refine q_aload_n rfl rfl rfl ?_
      refine q_lconst rfl rfl ?_
      refine q_putf rfl rfl (by decide) rfl (by decide) rfl trivial ?_
      refine q_ret rfl rfl ?_
      refine ⟨rfl, ?_⟩
      refine q_aload_n rfl rfl rfl ?_
      refine q_aload_n rfl rfl rfl ?_
      refine q_nV0 rfl rfl (Or.inl rfl) rfl rfl rfl (by decide) rfl ⟨rfl, rfl⟩ rfl ?_
      change PQ _ _ _ mm_X6_first 0 [.ref 7, pm_un, pm_un, pm_un] [] _ _ 0 0 _
      refine q_lconst rfl rfl ?_
      refine q_lst1n rfl rfl rfl rfl ?_
      refine q_iconst rfl rfl ?_
      refine q_ist3n rfl rfl rfl rfl ?_
      refine q_iload_n rfl rfl rfl ?_
      refine q_iconst rfl rfl ?_
      refine q_icge rfl rfl (fun c6 => absurd c6 (by decide)) (fun c6 => ?_)
      refine q_lload_n rfl rfl rfl ?_
      refine q_iload_n rfl rfl rfl ?_
      refine q_aload_n rfl rfl rfl ?_
      refine q_getf rfl rfl (by decide) rfl rfl ?_
      refine q_getf rfl rfl (by decide) (FW_1 S hW) rfl ?_
      refine q_iload_n rfl rfl rfl ?_
      refine q_iald rfl rfl (by decide) (FW_2 S hW) (by decide) (q_tn (z := 0) rfl ?_)
      refine q_nS3 rfl rfl (Or.inl rfl) rfl rfl ⟨rfl, rfl⟩ rfl ?_
      change PQ _ _ _ mm_X0_withPlace 0 [.long 0, pm_un, .int 0, .int 0, pm_un] [] _ _ 0 0 _
      refine q_bipush rfl rfl ?_
      refine q_iconst rfl rfl ?_
      refine q_iload_n rfl rfl rfl ?_
      refine q_imul rfl rfl (q_tn (z := 0) rfl ?_)
      refine q_iadd rfl rfl (q_tn (z := 36) rfl ?_)
      refine q_ist4 rfl rfl rfl rfl ?_
      refine q_lload_n rfl rfl rfl ?_
      refine q_ldc2 rfl rfl ?_
      refine q_iload rfl rfl rfl ?_
      refine q_lshl rfl rfl (q_tnl (z := 1030792151040) rfl ?_)
      refine q_ldc2 rfl rfl ?_
      refine q_lxor rfl rfl (q_tnl (z := (-1030792151041)) rfl ?_)
      refine q_land rfl rfl (q_tnl (z := 0) rfl ?_)
      refine q_iload_n rfl rfl rfl ?_
      refine q_i2l rfl rfl (q_tnl (z := 0) rfl ?_)
      refine q_iload rfl rfl rfl ?_
      refine q_lshl rfl rfl (q_tnl (z := 0) rfl ?_)
      refine q_lor rfl rfl (q_tnl (z := 0) rfl ?_)
      refine q_lret rfl rfl trivial ?_
      refine ⟨_, rfl, ?_⟩
      refine q_lst1n rfl rfl rfl rfl ?_
      refine q_icc3 (z := 1) rfl rfl rfl rfl rfl ?_
      refine q_goto rfl ?_
      refine q_iload_n rfl rfl rfl ?_
      refine q_iconst rfl rfl ?_
      refine q_icge rfl rfl (fun c7 => absurd c7 (by decide)) (fun c7 => ?_)
      refine q_lload_n rfl rfl rfl ?_
      refine q_iload_n rfl rfl rfl ?_
      refine q_aload_n rfl rfl rfl ?_
      refine q_getf rfl rfl (by decide) rfl rfl ?_
      refine q_getf rfl rfl (by decide) (FW_1 S hW) rfl ?_
      refine q_iload_n rfl rfl rfl ?_
      refine q_iald rfl rfl (by decide) (FW_2 S hW) (by decide) (q_tn (z := 0) rfl ?_)
      refine q_nS3 rfl rfl (Or.inl rfl) rfl rfl ⟨rfl, rfl⟩ rfl ?_
      change PQ _ _ _ mm_X0_withPlace 0 [.long 0, pm_un, .int 1, .int 0, pm_un] [] _ _ 0 0 _
      refine q_bipush rfl rfl ?_
      refine q_iconst rfl rfl ?_
      refine q_iload_n rfl rfl rfl ?_
      refine q_imul rfl rfl (q_tn (z := 4) rfl ?_)
      refine q_iadd rfl rfl (q_tn (z := 40) rfl ?_)
      refine q_ist4 rfl rfl rfl rfl ?_
      refine q_lload_n rfl rfl rfl ?_
      refine q_ldc2 rfl rfl ?_
      refine q_iload rfl rfl rfl ?_
      refine q_lshl rfl rfl (q_tnl (z := 16492674416640) rfl ?_)
      refine q_ldc2 rfl rfl ?_
      refine q_lxor rfl rfl (q_tnl (z := (-16492674416641)) rfl ?_)
      refine q_land rfl rfl (q_tnl (z := 0) rfl ?_)
      refine q_iload_n rfl rfl rfl ?_
      refine q_i2l rfl rfl (q_tnl (z := 0) rfl ?_)
      refine q_iload rfl rfl rfl ?_
      refine q_lshl rfl rfl (q_tnl (z := 0) rfl ?_)
      refine q_lor rfl rfl (q_tnl (z := 0) rfl ?_)
      refine q_lret rfl rfl trivial ?_
      refine ⟨_, rfl, ?_⟩
      refine q_lst1n rfl rfl rfl rfl ?_
      refine q_icc3 (z := 2) rfl rfl rfl rfl rfl ?_
      refine q_goto rfl ?_
      refine q_iload_n rfl rfl rfl ?_
      refine q_iconst rfl rfl ?_
      refine q_icge rfl rfl (fun c8 => absurd c8 (by decide)) (fun c8 => ?_)
      refine q_lload_n rfl rfl rfl ?_
      refine q_iload_n rfl rfl rfl ?_
      refine q_aload_n rfl rfl rfl ?_
      refine q_getf rfl rfl (by decide) rfl rfl ?_
      refine q_getf rfl rfl (by decide) (FW_1 S hW) rfl ?_
      refine q_iload_n rfl rfl rfl ?_
      refine q_iald rfl rfl (by decide) (FW_2 S hW) (by decide) (q_tn (z := 0) rfl ?_)
      refine q_nS3 rfl rfl (Or.inl rfl) rfl rfl ⟨rfl, rfl⟩ rfl ?_
      change PQ _ _ _ mm_X0_withPlace 0 [.long 0, pm_un, .int 2, .int 0, pm_un] [] _ _ 0 0 _
      refine q_bipush rfl rfl ?_
      refine q_iconst rfl rfl ?_
      refine q_iload_n rfl rfl rfl ?_
      refine q_imul rfl rfl (q_tn (z := 8) rfl ?_)
      refine q_iadd rfl rfl (q_tn (z := 44) rfl ?_)
      refine q_ist4 rfl rfl rfl rfl ?_
      refine q_lload_n rfl rfl rfl ?_
      refine q_ldc2 rfl rfl ?_
      refine q_iload rfl rfl rfl ?_
      refine q_lshl rfl rfl (q_tnl (z := 263882790666240) rfl ?_)
      refine q_ldc2 rfl rfl ?_
      refine q_lxor rfl rfl (q_tnl (z := (-263882790666241)) rfl ?_)
      refine q_land rfl rfl (q_tnl (z := 0) rfl ?_)
      refine q_iload_n rfl rfl rfl ?_
      refine q_i2l rfl rfl (q_tnl (z := 0) rfl ?_)
      refine q_iload rfl rfl rfl ?_
      refine q_lshl rfl rfl (q_tnl (z := 0) rfl ?_)
      refine q_lor rfl rfl (q_tnl (z := 0) rfl ?_)
      refine q_lret rfl rfl trivial ?_
      refine ⟨_, rfl, ?_⟩
      refine q_lst1n rfl rfl rfl rfl ?_
      refine q_icc3 (z := 3) rfl rfl rfl rfl rfl ?_
      refine q_goto rfl ?_
      refine q_iload_n rfl rfl rfl ?_
      refine q_iconst rfl rfl ?_
      refine q_icge rfl rfl (fun c9 => absurd c9 (by decide)) (fun c9 => ?_)
      refine q_lload_n rfl rfl rfl ?_
      refine q_iload_n rfl rfl rfl ?_
      refine q_aload_n rfl rfl rfl ?_
      refine q_getf rfl rfl (by decide) rfl rfl ?_
      refine q_getf rfl rfl (by decide) (FW_1 S hW) rfl ?_
      refine q_iload_n rfl rfl rfl ?_
      refine q_iald rfl rfl (by decide) (FW_2 S hW) (by decide) (q_tn (z := 0) rfl ?_)
      refine q_nS3 rfl rfl (Or.inl rfl) rfl rfl ⟨rfl, rfl⟩ rfl ?_
      change PQ _ _ _ mm_X0_withPlace 0 [.long 0, pm_un, .int 3, .int 0, pm_un] [] _ _ 0 0 _
      refine q_bipush rfl rfl ?_
      refine q_iconst rfl rfl ?_
      refine q_iload_n rfl rfl rfl ?_
      refine q_imul rfl rfl (q_tn (z := 12) rfl ?_)
      refine q_iadd rfl rfl (q_tn (z := 48) rfl ?_)
      refine q_ist4 rfl rfl rfl rfl ?_
      refine q_lload_n rfl rfl rfl ?_
      refine q_ldc2 rfl rfl ?_
      refine q_iload rfl rfl rfl ?_
      refine q_lshl rfl rfl (q_tnl (z := 4222124650659840) rfl ?_)
      refine q_ldc2 rfl rfl ?_
      refine q_lxor rfl rfl (q_tnl (z := (-4222124650659841)) rfl ?_)
      refine q_land rfl rfl (q_tnl (z := 0) rfl ?_)
      refine q_iload_n rfl rfl rfl ?_
      refine q_i2l rfl rfl (q_tnl (z := 0) rfl ?_)
      refine q_iload rfl rfl rfl ?_
      refine q_lshl rfl rfl (q_tnl (z := 0) rfl ?_)
      refine q_lor rfl rfl (q_tnl (z := 0) rfl ?_)
      refine q_lret rfl rfl trivial ?_
      refine ⟨_, rfl, ?_⟩
      refine q_lst1n rfl rfl rfl rfl ?_
      refine q_icc3 (z := 4) rfl rfl rfl rfl rfl ?_
      refine q_goto rfl ?_
      refine q_iload_n rfl rfl rfl ?_
      refine q_iconst rfl rfl ?_
      refine q_icge rfl rfl (fun c10 => ?_) (fun c10 => absurd (by decide) c10)
      refine q_lload_n rfl rfl rfl ?_
      refine q_lret rfl rfl trivial ?_
      refine ⟨_, rfl, ?_⟩
      refine q_iconst rfl rfl ?_
      refine q_iconst rfl rfl ?_
      refine q_nV3 rfl rfl (Or.inl rfl) rfl rfl rfl (by decide) rfl ⟨rfl, rfl⟩ rfl ?_
      change PQ _ _ _ mm_X7_numberOf 0 [.ref 8, .long 0, pm_un, .int (-1), .int (-1), pm_un, pm_un, pm_un] [] _ _ 0 0 _
      refine q_lload_n rfl rfl rfl ?_
      refine q_ldc2 rfl rfl ?_
      refine q_lmul rfl rfl (q_tnl (z := 0) rfl ?_)
      refine q_bipush rfl rfl ?_
      refine q_lushr rfl rfl (q_tnl (z := 0) rfl ?_)
      refine q_l2i rfl rfl (q_tn (z := 0) rfl ?_)
      refine q_sipush rfl rfl ?_
      refine q_iand rfl rfl (q_tn (z := 0) rfl ?_)
      refine q_ist5 rfl rfl rfl rfl ?_
      refine q_iconst rfl rfl ?_
      refine q_ist6 rfl rfl rfl rfl ?_
      refine q_iload rfl rfl rfl ?_
      refine q_sipush rfl rfl ?_
      refine q_icge rfl rfl (fun c11 => absurd c11 (by decide)) (fun c11 => ?_)
      refine q_aload_n rfl rfl rfl ?_
      refine q_getf rfl rfl (by decide) rfl rfl ?_
      refine q_iload rfl rfl rfl ?_
      refine q_iald rfl rfl (by decide) (FW_14 S hW) (by decide) (q_tn (z := 0) rfl ?_)
      refine q_iconst rfl rfl ?_
      refine q_isub rfl rfl (q_tn (z := (-1)) rfl ?_)
      refine q_ist7 rfl rfl rfl rfl ?_
      refine q_iload rfl rfl rfl ?_
      refine q_ifge rfl rfl (fun c12 => absurd c12 (by decide)) (fun c12 => ?_)
      refine q_aload_n rfl rfl rfl ?_
      refine q_lload_n rfl rfl rfl ?_
      refine q_iload rfl rfl rfl ?_
      refine q_iload_n rfl rfl rfl ?_
      refine q_iload rfl rfl rfl ?_
      refine q_nV4 rfl rfl (Or.inl rfl) rfl rfl rfl (by decide) rfl ⟨rfl, rfl⟩ rfl ?_
      change PQ _ _ _ mm_X7_newNumber 0 [.ref 8, .long 0, pm_un, .int 0, .int (-1), .int (-1), pm_un] [] _ _ 0 0 _
      refine q_aload_n rfl rfl rfl ?_
      refine q_getf rfl rfl (by decide) rfl rfl ?_
      refine q_sipush rfl rfl ?_
      refine q_iclt rfl rfl (fun c13 => ?_) (fun c13 => absurd (by decide) c13)
      refine q_aload_n rfl rfl rfl ?_
      refine q_dupr rfl rfl ?_
      refine q_getf rfl rfl (by decide) rfl rfl ?_
      refine q_dupx1 rfl rfl ?_
      refine q_iconst rfl rfl ?_
      refine q_iadd rfl rfl (q_tn (z := 1) rfl ?_)
      refine q_putf rfl rfl (by decide) rfl (by decide) rfl trivial ?_
      refine q_ist6 rfl rfl rfl rfl ?_
      refine q_aload_n rfl rfl rfl ?_
      refine q_getf rfl rfl (by decide) rfl rfl ?_
      refine q_iload rfl rfl rfl ?_
      refine q_lload_n rfl rfl rfl ?_
      refine q_last rfl rfl (by decide) (FW_9 S hW) (by decide) ?_
      refine q_aload_n rfl rfl rfl ?_
      refine q_getf rfl rfl (by decide) rfl rfl ?_
      refine q_iload rfl rfl rfl ?_
      refine q_iload rfl rfl rfl ?_
      refine q_iast rfl rfl (by decide) (FW_10 S hW) (by decide) ?_
      refine q_aload_n rfl rfl rfl ?_
      refine q_getf rfl rfl (by decide) rfl rfl ?_
      refine q_iload rfl rfl rfl ?_
      refine q_iload rfl rfl rfl ?_
      refine q_iast rfl rfl (by decide) (FW_11 S hW) (by decide) ?_
      refine q_aload_n rfl rfl rfl ?_
      refine q_getf rfl rfl (by decide) rfl rfl ?_
      refine q_iload rfl rfl rfl ?_
      refine q_iload_n rfl rfl rfl ?_
      refine q_iast rfl rfl (by decide) (FW_15 S hW) (by decide) ?_
      refine q_aload_n rfl rfl rfl ?_
      refine q_getf rfl rfl (by decide) rfl rfl ?_
      refine q_iload_n rfl rfl rfl ?_
      refine q_iload rfl rfl rfl ?_
      refine q_iconst rfl rfl ?_
      refine q_iadd rfl rfl (q_tn (z := 1) rfl ?_)
      refine q_iast rfl rfl (by decide) (FW_14 S hW) (by decide) ?_
      refine q_iload rfl rfl rfl ?_
      refine q_iret rfl rfl trivial ?_
      refine ⟨_, rfl, ?_⟩
      refine q_iret rfl rfl trivial ?_
      refine ⟨_, rfl, ?_⟩
      refine q_pop rfl rfl ?_
      refine q_iconst rfl rfl ?_
      refine q_ist3n rfl rfl rfl rfl ?_
      refine q_iload_n rfl rfl rfl ?_
      refine q_sipush rfl rfl ?_
      refine q_icge rfl rfl (fun c14 => absurd c14 (by decide)) (fun c14 => ?_)
      refine q_iload_n rfl rfl rfl ?_
      refine q_aload_n rfl rfl rfl ?_
      refine q_getf rfl rfl (by decide) rfl rfl ?_
      refine q_icge rfl rfl (fun c15 => absurd c15 (by decide)) (fun c15 => ?_)
      refine q_aload_n rfl rfl rfl ?_
      refine q_aload_n rfl rfl rfl ?_
      refine q_iload_n rfl rfl rfl ?_
      refine q_nV2v rfl rfl (Or.inl rfl) rfl rfl rfl (by decide) rfl ⟨rfl, rfl⟩ rfl ?_
      change PQ _ _ _ mm_X7_lookAt 0 [.ref 8, .ref 7, .int 0, pm_un, pm_un, pm_un, pm_un, pm_un, pm_un, pm_un] [] _ _ 0 0 _
      refine q_aload_n rfl rfl rfl ?_
      refine q_getf rfl rfl (by decide) rfl rfl ?_
      refine q_iload_n rfl rfl rfl ?_
      refine q_lald rfl rfl (by decide) rfl (by decide) (q_tnl (z := 0) rfl ?_)
      refine q_lst3n rfl rfl rfl rfl ?_
      refine q_aload_n rfl rfl rfl ?_
      refine q_aload_n rfl rfl rfl ?_
      refine q_lload_n rfl rfl rfl ?_
      refine q_nV1 rfl rfl (Or.inl rfl) rfl rfl rfl (by decide) rfl ⟨rfl, rfl⟩ rfl ?_
      change PQ _ _ _ mm_X6_ableHands 0 [.ref 7, .long 0, pm_un, pm_un, pm_un, pm_un] [] _ _ 0 0 _
      refine q_aload_n rfl rfl rfl ?_
      refine q_lload_n rfl rfl rfl ?_
      refine q_nV1 rfl rfl (Or.inl rfl) rfl rfl rfl (by decide) rfl ⟨rfl, rfl⟩ rfl ?_
      change PQ _ _ _ mm_X6_allMeet 0 [.ref 7, .long 0, pm_un, pm_un, pm_un] [] _ _ 0 0 _
      refine q_iconst rfl rfl ?_
      refine q_ist3n rfl rfl rfl rfl ?_
      refine q_iload_n rfl rfl rfl ?_
      refine q_aload_n rfl rfl rfl ?_
      refine q_getf rfl rfl (by decide) rfl rfl ?_
      refine q_getf rfl rfl (by decide) (FW_1 S hW) rfl ?_
      refine q_icge rfl rfl (fun c16 => absurd c16 (by decide)) (fun c16 => ?_)
      refine q_aload_n rfl rfl rfl ?_
      refine q_getf rfl rfl (by decide) rfl rfl ?_
      refine q_iload_n rfl rfl rfl ?_
      refine q_lload_n rfl rfl rfl ?_
      refine q_iload_n rfl rfl rfl ?_
      refine q_nS2 rfl rfl (Or.inl rfl) rfl rfl ⟨rfl, rfl⟩ rfl ?_
      change PQ _ _ _ mm_X0_position 0 [.long 0, pm_un, .int 0] [] _ _ 0 0 _
      refine q_lload_n rfl rfl rfl ?_
      refine q_bipush rfl rfl ?_
      refine q_iload_n rfl rfl rfl ?_
      refine q_imul rfl rfl (q_tn (z := 0) rfl ?_)
      refine q_lushr rfl rfl (q_tnl (z := 0) rfl ?_)
      refine q_l2i rfl rfl (q_tn (z := 0) rfl ?_)
      refine q_bipush rfl rfl ?_
      refine q_iand rfl rfl (q_tn (z := 0) rfl ?_)
      refine q_iret rfl rfl trivial ?_
      refine ⟨_, rfl, ?_⟩
      refine q_nV2 rfl rfl (Or.inl rfl) rfl rfl rfl (by decide) (FW_1 S hW) ⟨rfl, rfl⟩ rfl ?_
      change PQ _ _ _ mm_X8_cellOf 0 [.ref 1, .int 0, .int 0, pm_un] [] _ _ 0 0 _
      refine q_iload_n rfl rfl rfl ?_
      refine q_iflt rfl rfl (fun c17 => absurd c17 (by decide)) (fun c17 => ?_)
      refine q_iload_n rfl rfl rfl ?_
      refine q_aload_n rfl rfl rfl ?_
      refine q_getf rfl rfl (by decide) (FW_1 S hW) rfl ?_
      refine q_icge rfl rfl (fun c18 => absurd c18 (by decide)) (fun c18 => ?_)
      refine q_iload_n rfl rfl rfl ?_
      refine q_iflt rfl rfl (fun c19 => absurd c19 (by decide)) (fun c19 => ?_)
      refine q_iload_n rfl rfl rfl ?_
      refine q_aload_n rfl rfl rfl ?_
      refine q_getf rfl rfl (by decide) (FW_1 S hW) rfl ?_
      refine q_iload_n rfl rfl rfl ?_
      refine q_iald rfl rfl (by decide) (FW_3 S hW) (by decide) (q_tn (z := 0) rfl ?_)
      refine q_icge rfl rfl (fun c20 => ?_) (fun c20 => absurd (by decide) c20)
      refine q_iconst rfl rfl ?_
      refine q_ist3n rfl rfl rfl rfl ?_
      refine q_iload_n rfl rfl rfl ?_
      refine q_ifeq rfl rfl (fun c21 => ?_) (fun c21 => absurd (by decide) c21)
      refine q_iconst rfl rfl ?_
      refine q_iret rfl rfl trivial ?_
      refine ⟨_, rfl, ?_⟩
      refine q_ist4 rfl rfl rfl rfl ?_
      refine q_iload rfl rfl rfl ?_
      refine q_iflt rfl rfl (fun c22 => ?_) (fun c22 => absurd (by decide) c22)
      refine q_icc3 (z := 1) rfl rfl rfl rfl rfl ?_
      refine q_goto rfl ?_
      refine q_iload_n rfl rfl rfl ?_
      refine q_aload_n rfl rfl rfl ?_
      refine q_getf rfl rfl (by decide) rfl rfl ?_
      refine q_getf rfl rfl (by decide) (FW_1 S hW) rfl ?_
      refine q_icge rfl rfl (fun c23 => ?_) (fun c23 => absurd (by decide) c23)
      refine q_iconst rfl rfl ?_
      refine q_iret rfl rfl rfl ?_
      refine ⟨_, rfl, ?_⟩
      refine q_ist3n rfl rfl rfl rfl ?_
      refine q_iconst rfl rfl ?_
      refine q_ist4 rfl rfl rfl rfl ?_
      refine q_iconst rfl rfl ?_
      refine q_ist5 rfl rfl rfl rfl ?_
      refine q_iload rfl rfl rfl ?_
      refine q_aload_n rfl rfl rfl ?_
      refine q_getf rfl rfl (by decide) rfl rfl ?_
      refine q_getf rfl rfl (by decide) (FW_1 S hW) rfl ?_
      refine q_icge rfl rfl (fun c24 => absurd c24 (by decide)) (fun c24 => ?_)
      refine q_aload_n rfl rfl rfl ?_
      refine q_lload_n rfl rfl rfl ?_
      refine q_iload rfl rfl rfl ?_
      refine q_iload_n rfl rfl rfl ?_
      refine q_nV3 rfl rfl (Or.inl rfl) rfl rfl rfl (by decide) rfl ⟨rfl, rfl⟩ rfl ?_
      change PQ _ _ _ mm_X6_isAble 0 [.ref 7, .long 0, pm_un, .int 0, .int 1, pm_un, pm_un, pm_un] [] _ _ 0 0 _
      refine q_aload_n rfl rfl rfl ?_
      refine q_getf rfl rfl (by decide) rfl rfl ?_
      refine q_iload_n rfl rfl rfl ?_
      refine q_lload_n rfl rfl rfl ?_
      refine q_iload_n rfl rfl rfl ?_
      refine q_nS2 rfl rfl (Or.inl rfl) rfl rfl ⟨rfl, rfl⟩ rfl ?_
      change PQ _ _ _ mm_X0_position 0 [.long 0, pm_un, .int 0] [] _ _ 0 0 _
      refine q_lload_n rfl rfl rfl ?_
      refine q_bipush rfl rfl ?_
      refine q_iload_n rfl rfl rfl ?_
      refine q_imul rfl rfl (q_tn (z := 0) rfl ?_)
      refine q_lushr rfl rfl (q_tnl (z := 0) rfl ?_)
      refine q_l2i rfl rfl (q_tn (z := 0) rfl ?_)
      refine q_bipush rfl rfl ?_
      refine q_iand rfl rfl (q_tn (z := 0) rfl ?_)
      refine q_iret rfl rfl trivial ?_
      refine ⟨_, rfl, ?_⟩
      refine q_nV2 rfl rfl (Or.inl rfl) rfl rfl rfl (by decide) (FW_1 S hW) ⟨rfl, rfl⟩ rfl ?_
      change PQ _ _ _ mm_X8_cellOf 0 [.ref 1, .int 0, .int 0, pm_un] [] _ _ 0 0 _
      refine q_iload_n rfl rfl rfl ?_
      refine q_iflt rfl rfl (fun c25 => absurd c25 (by decide)) (fun c25 => ?_)
      refine q_iload_n rfl rfl rfl ?_
      refine q_aload_n rfl rfl rfl ?_
      refine q_getf rfl rfl (by decide) (FW_1 S hW) rfl ?_
      refine q_icge rfl rfl (fun c26 => absurd c26 (by decide)) (fun c26 => ?_)
      refine q_iload_n rfl rfl rfl ?_
      refine q_iflt rfl rfl (fun c27 => absurd c27 (by decide)) (fun c27 => ?_)
      refine q_iload_n rfl rfl rfl ?_
      refine q_aload_n rfl rfl rfl ?_
      refine q_getf rfl rfl (by decide) (FW_1 S hW) rfl ?_
      refine q_iload_n rfl rfl rfl ?_
      refine q_iald rfl rfl (by decide) (FW_3 S hW) (by decide) (q_tn (z := 0) rfl ?_)
      refine q_icge rfl rfl (fun c28 => ?_) (fun c28 => absurd (by decide) c28)
      refine q_iconst rfl rfl ?_
      refine q_ist3n rfl rfl rfl rfl ?_
      refine q_iload_n rfl rfl rfl ?_
      refine q_ifeq rfl rfl (fun c29 => ?_) (fun c29 => absurd (by decide) c29)
      refine q_iconst rfl rfl ?_
      refine q_iret rfl rfl trivial ?_
      refine ⟨_, rfl, ?_⟩
      refine q_ist5 rfl rfl rfl rfl ?_
      refine q_iload rfl rfl rfl ?_
      refine q_ifge rfl rfl (fun c30 => absurd c30 (by decide)) (fun c30 => ?_)
      refine q_iconst rfl rfl ?_
      refine q_iret rfl rfl rfl ?_
      refine ⟨_, rfl, ?_⟩
      refine q_ifeq rfl rfl (fun c31 => ?_) (fun c31 => absurd (by decide) c31)
      refine q_icc5 (z := 1) rfl rfl rfl rfl rfl ?_
      refine q_goto rfl ?_
      refine q_iload rfl rfl rfl ?_
      refine q_aload_n rfl rfl rfl ?_
      refine q_getf rfl rfl (by decide) rfl rfl ?_
      refine q_getf rfl rfl (by decide) (FW_1 S hW) rfl ?_
      refine q_icge rfl rfl (fun c32 => ?_) (fun c32 => absurd (by decide) c32)
      refine q_iload rfl rfl rfl ?_
      refine q_iret rfl rfl trivial ?_
      refine ⟨_, rfl, ?_⟩
      refine q_lload_n rfl rfl rfl ?_
      refine q_nS1 rfl rfl (Or.inl rfl) rfl rfl ⟨rfl, rfl⟩ rfl ?_
      change PQ _ _ _ mm_X0_last 0 [.long 0, pm_un] [] _ _ 0 0 _
      refine q_lload_n rfl rfl rfl ?_
      refine q_bipush rfl rfl ?_
      refine q_lushr rfl rfl (q_tnl (z := 0) rfl ?_)
      refine q_l2i rfl rfl (q_tn (z := 0) rfl ?_)
      refine q_iconst rfl rfl ?_
      refine q_iand rfl rfl (q_tn (z := 0) rfl ?_)
      refine q_iconst rfl rfl ?_
      refine q_isub rfl rfl (q_tn (z := (-1)) rfl ?_)
      refine q_iret rfl rfl trivial ?_
      refine ⟨_, rfl, ?_⟩
      refine q_nV2 rfl rfl (Or.inl rfl) rfl rfl rfl (by decide) rfl ⟨rfl, rfl⟩ rfl ?_
      change PQ _ _ _ mm_X6_chosenHands 0 [.ref 7, .int 0, .int (-1), pm_un, pm_un] [] _ _ 0 0 _
      refine q_aload_n rfl rfl rfl ?_
      refine q_getf rfl rfl (by decide) rfl rfl ?_
      refine q_iconst rfl rfl ?_
      refine q_icne rfl rfl (fun c33 => absurd c33 (by decide)) (fun c33 => ?_)
      refine q_aload_n rfl rfl rfl ?_
      refine q_getf rfl rfl (by decide) rfl rfl ?_
      refine q_iconst rfl rfl ?_
      refine q_iceq rfl rfl (fun c34 => absurd c34 (by decide)) (fun c34 => ?_)
      refine q_iload_n rfl rfl rfl ?_
      refine q_iret rfl rfl trivial ?_
      refine ⟨_, rfl, ?_⟩
      refine q_ist5 rfl rfl rfl rfl ?_
      refine q_iconst rfl rfl ?_
      refine q_ist6 rfl rfl rfl rfl ?_
      refine q_iload rfl rfl rfl ?_
      refine q_iconst rfl rfl ?_
      refine q_icge rfl rfl (fun c35 => absurd c35 (by decide)) (fun c35 => ?_)
      refine q_iconst rfl rfl ?_
      refine q_ist7 rfl rfl rfl rfl ?_
      refine q_iload rfl rfl rfl ?_
      refine q_iload rfl rfl rfl ?_
      refine q_iushr rfl rfl (q_tn (z := 0) rfl ?_)
      refine q_iconst rfl rfl ?_
      refine q_iand rfl rfl (q_tn (z := 0) rfl ?_)
      refine q_ifeq rfl rfl (fun c36 => ?_) (fun c36 => absurd (by decide) c36)
      refine q_aload_n rfl rfl rfl ?_
      refine q_getf rfl rfl (by decide) rfl rfl ?_
      refine q_iload_n rfl rfl rfl ?_
      refine q_iconst rfl rfl ?_
      refine q_imul rfl rfl (q_tn (z := 0) rfl ?_)
      refine q_iload rfl rfl rfl ?_
      refine q_iadd rfl rfl (q_tn (z := 0) rfl ?_)
      refine q_iload rfl rfl rfl ?_
      refine q_iast rfl rfl (by decide) (FW_13 S hW) (by decide) ?_
      refine q_icc6 (z := 1) rfl rfl rfl rfl rfl ?_
      refine q_goto rfl ?_
      refine q_iload rfl rfl rfl ?_
      refine q_iconst rfl rfl ?_
      refine q_icge rfl rfl (fun c37 => absurd c37 (by decide)) (fun c37 => ?_)
      refine q_iconst rfl rfl ?_
      refine q_ist7 rfl rfl rfl rfl ?_
      refine q_iload rfl rfl rfl ?_
      refine q_iload rfl rfl rfl ?_
      refine q_iushr rfl rfl (q_tn (z := 0) rfl ?_)
      refine q_iconst rfl rfl ?_
      refine q_iand rfl rfl (q_tn (z := 0) rfl ?_)
      refine q_ifeq rfl rfl (fun c38 => ?_) (fun c38 => absurd (by decide) c38)
      refine q_aload_n rfl rfl rfl ?_
      refine q_getf rfl rfl (by decide) rfl rfl ?_
      refine q_iload_n rfl rfl rfl ?_
      refine q_iconst rfl rfl ?_
      refine q_imul rfl rfl (q_tn (z := 0) rfl ?_)
      refine q_iload rfl rfl rfl ?_
      refine q_iadd rfl rfl (q_tn (z := 1) rfl ?_)
      refine q_iload rfl rfl rfl ?_
      refine q_iast rfl rfl (by decide) rfl (by decide) ?_
      refine q_icc6 (z := 2) rfl rfl rfl rfl rfl ?_
      refine q_goto rfl ?_
      refine q_iload rfl rfl rfl ?_
      refine q_iconst rfl rfl ?_
      refine q_icge rfl rfl (fun c39 => absurd c39 (by decide)) (fun c39 => ?_)
      refine q_iconst rfl rfl ?_
      refine q_ist7 rfl rfl rfl rfl ?_
      refine q_iload rfl rfl rfl ?_
      refine q_iload rfl rfl rfl ?_
      refine q_iushr rfl rfl (q_tn (z := 0) rfl ?_)
      refine q_iconst rfl rfl ?_
      refine q_iand rfl rfl (q_tn (z := 0) rfl ?_)
      refine q_ifeq rfl rfl (fun c40 => ?_) (fun c40 => absurd (by decide) c40)
      refine q_aload_n rfl rfl rfl ?_
      refine q_getf rfl rfl (by decide) rfl rfl ?_
      refine q_iload_n rfl rfl rfl ?_
      refine q_iconst rfl rfl ?_
      refine q_imul rfl rfl (q_tn (z := 0) rfl ?_)
      refine q_iload rfl rfl rfl ?_
      refine q_iadd rfl rfl (q_tn (z := 2) rfl ?_)
      refine q_iload rfl rfl rfl ?_
      refine q_iast rfl rfl (by decide) rfl (by decide) ?_
      refine q_icc6 (z := 3) rfl rfl rfl rfl rfl ?_
      refine q_goto rfl ?_
      refine q_iload rfl rfl rfl ?_
      refine q_iconst rfl rfl ?_
      refine q_icge rfl rfl (fun c41 => ?_) (fun c41 => absurd (by decide) c41)
      refine q_aload_n rfl rfl rfl ?_
      refine q_getf rfl rfl (by decide) rfl rfl ?_
      refine q_iload_n rfl rfl rfl ?_
      refine q_iload rfl rfl rfl ?_
      refine q_ifeq rfl rfl (fun c42 => ?_) (fun c42 => absurd (by decide) c42)
      refine q_aload_n rfl rfl rfl ?_
      refine q_lload_n rfl rfl rfl ?_
      refine q_nV1 rfl rfl (Or.inl rfl) rfl rfl rfl (by decide) rfl ⟨rfl, rfl⟩ rfl ?_
      change PQ _ _ _ mm_X6_isEnd 0 [.ref 7, .long 0, pm_un, pm_un] [] _ _ 0 0 _
      refine q_iconst rfl rfl ?_
      refine q_ist3n rfl rfl rfl rfl ?_
      refine q_iload_n rfl rfl rfl ?_
      refine q_aload_n rfl rfl rfl ?_
      refine q_getf rfl rfl (by decide) rfl rfl ?_
      refine q_getf rfl rfl (by decide) (FW_1 S hW) rfl ?_
      refine q_icge rfl rfl (fun c43 => absurd c43 (by decide)) (fun c43 => ?_)
      refine q_aload_n rfl rfl rfl ?_
      refine q_getf rfl rfl (by decide) rfl rfl ?_
      refine q_iload_n rfl rfl rfl ?_
      refine q_lload_n rfl rfl rfl ?_
      refine q_iload_n rfl rfl rfl ?_
      refine q_nS2 rfl rfl (Or.inl rfl) rfl rfl ⟨rfl, rfl⟩ rfl ?_
      change PQ _ _ _ mm_X0_position 0 [.long 0, pm_un, .int 0] [] _ _ 0 0 _
      refine q_lload_n rfl rfl rfl ?_
      refine q_bipush rfl rfl ?_
      refine q_iload_n rfl rfl rfl ?_
      refine q_imul rfl rfl (q_tn (z := 0) rfl ?_)
      refine q_lushr rfl rfl (q_tnl (z := 0) rfl ?_)
      refine q_l2i rfl rfl (q_tn (z := 0) rfl ?_)
      refine q_bipush rfl rfl ?_
      refine q_iand rfl rfl (q_tn (z := 0) rfl ?_)
      refine q_iret rfl rfl trivial ?_
      refine ⟨_, rfl, ?_⟩
      refine q_nV2 rfl rfl (Or.inl rfl) rfl rfl rfl (by decide) (FW_1 S hW) ⟨rfl, rfl⟩ rfl ?_
      change PQ _ _ _ mm_X8_cellOf 0 [.ref 1, .int 0, .int 0, pm_un] [] _ _ 0 0 _
      refine q_iload_n rfl rfl rfl ?_
      refine q_iflt rfl rfl (fun c44 => absurd c44 (by decide)) (fun c44 => ?_)
      refine q_iload_n rfl rfl rfl ?_
      refine q_aload_n rfl rfl rfl ?_
      refine q_getf rfl rfl (by decide) (FW_1 S hW) rfl ?_
      refine q_icge rfl rfl (fun c45 => absurd c45 (by decide)) (fun c45 => ?_)
      refine q_iload_n rfl rfl rfl ?_
      refine q_iflt rfl rfl (fun c46 => absurd c46 (by decide)) (fun c46 => ?_)
      refine q_iload_n rfl rfl rfl ?_
      refine q_aload_n rfl rfl rfl ?_
      refine q_getf rfl rfl (by decide) (FW_1 S hW) rfl ?_
      refine q_iload_n rfl rfl rfl ?_
      refine q_iald rfl rfl (by decide) (FW_3 S hW) (by decide) (q_tn (z := 0) rfl ?_)
      refine q_icge rfl rfl (fun c47 => ?_) (fun c47 => absurd (by decide) c47)
      refine q_iconst rfl rfl ?_
      refine q_ist3n rfl rfl rfl rfl ?_
      refine q_iload_n rfl rfl rfl ?_
      refine q_ifeq rfl rfl (fun c48 => ?_) (fun c48 => absurd (by decide) c48)
      refine q_iconst rfl rfl ?_
      refine q_iret rfl rfl trivial ?_
      refine ⟨_, rfl, ?_⟩
      refine q_iflt rfl rfl (fun c49 => ?_) (fun c49 => absurd (by decide) c49)
      refine q_icc3 (z := 1) rfl rfl rfl rfl rfl ?_
      refine q_goto rfl ?_
      refine q_iload_n rfl rfl rfl ?_
      refine q_aload_n rfl rfl rfl ?_
      refine q_getf rfl rfl (by decide) rfl rfl ?_
      refine q_getf rfl rfl (by decide) (FW_1 S hW) rfl ?_
      refine q_icge rfl rfl (fun c50 => ?_) (fun c50 => absurd (by decide) c50)
      refine q_iconst rfl rfl ?_
      refine q_iret rfl rfl rfl ?_
      refine ⟨_, rfl, ?_⟩
      refine q_ifeq rfl rfl (fun c51 => absurd c51 (by decide)) (fun c51 => ?_)
      refine q_iconst rfl rfl ?_
      refine q_goto rfl ?_
      refine q_iast rfl rfl (by decide) (FW_12 S hW) (by decide) ?_
      refine q_aload_n rfl rfl rfl ?_
      refine q_dupr rfl rfl ?_
      refine q_getf rfl rfl (by decide) rfl rfl ?_
      refine q_aload_n rfl rfl rfl ?_
      refine q_getf rfl rfl (by decide) rfl rfl ?_
      refine q_iload_n rfl rfl rfl ?_
      refine q_iald rfl rfl (by decide) rfl (by decide) (q_tn (z := 1) rfl ?_)
      refine q_iconst rfl rfl ?_
      refine q_iceq rfl rfl (fun c52 => absurd c52 (by decide)) (fun c52 => ?_)
      refine q_aload_n rfl rfl rfl ?_
      refine q_lload_n rfl rfl rfl ?_
      refine q_nV1 rfl rfl (Or.inl rfl) rfl rfl rfl (by decide) rfl ⟨rfl, rfl⟩ rfl ?_
      change PQ _ _ _ mm_X6_someFailed 0 [.ref 7, .long 0, pm_un, pm_un] [] _ _ 0 0 _
      refine q_iconst rfl rfl ?_
      refine q_ist3n rfl rfl rfl rfl ?_
      refine q_iload_n rfl rfl rfl ?_
      refine q_aload_n rfl rfl rfl ?_
      refine q_getf rfl rfl (by decide) rfl rfl ?_
      refine q_getf rfl rfl (by decide) (FW_1 S hW) rfl ?_
      refine q_icge rfl rfl (fun c53 => absurd c53 (by decide)) (fun c53 => ?_)
      refine q_lload_n rfl rfl rfl ?_
      refine q_iload_n rfl rfl rfl ?_
      refine q_nS2 rfl rfl (Or.inl rfl) rfl rfl ⟨rfl, rfl⟩ rfl ?_
      change PQ _ _ _ mm_X0_position 0 [.long 0, pm_un, .int 0] [] _ _ 0 0 _
      refine q_lload_n rfl rfl rfl ?_
      refine q_bipush rfl rfl ?_
      refine q_iload_n rfl rfl rfl ?_
      refine q_imul rfl rfl (q_tn (z := 0) rfl ?_)
      refine q_lushr rfl rfl (q_tnl (z := 0) rfl ?_)
      refine q_l2i rfl rfl (q_tn (z := 0) rfl ?_)
      refine q_bipush rfl rfl ?_
      refine q_iand rfl rfl (q_tn (z := 0) rfl ?_)
      refine q_iret rfl rfl trivial ?_
      refine ⟨_, rfl, ?_⟩
      refine q_bipush rfl rfl ?_
      refine q_icne rfl rfl (fun c54 => absurd c54 (by decide)) (fun c54 => ?_)
      refine q_icc3 (z := 1) rfl rfl rfl rfl rfl ?_
      refine q_goto rfl ?_
      refine q_iload_n rfl rfl rfl ?_
      refine q_aload_n rfl rfl rfl ?_
      refine q_getf rfl rfl (by decide) rfl rfl ?_
      refine q_getf rfl rfl (by decide) (FW_1 S hW) rfl ?_
      refine q_icge rfl rfl (fun c55 => ?_) (fun c55 => absurd (by decide) c55)
      refine q_iconst rfl rfl ?_
      refine q_iret rfl rfl rfl ?_
      refine ⟨_, rfl, ?_⟩
      refine q_ifeq rfl rfl (fun c56 => ?_) (fun c56 => absurd (by decide) c56)
      refine q_iconst rfl rfl ?_
      refine q_ior rfl rfl (q_tn (z := 0) rfl ?_)
      refine q_putf rfl rfl (by decide) rfl (by decide) rfl rfl ?_
      refine q_aload_n rfl rfl rfl ?_
      refine q_getf rfl rfl (by decide) rfl rfl ?_
      refine q_iload_n rfl rfl rfl ?_
      refine q_iald rfl rfl (by decide) rfl (by decide) (q_tn (z := 1) rfl ?_)
      refine q_iconst rfl rfl ?_
      refine q_icne rfl rfl (fun c57 => ?_) (fun c57 => absurd (by decide) c57)
      refine q_aload_n rfl rfl rfl ?_
      refine q_lload_n rfl rfl rfl ?_
      refine q_nV1v rfl rfl (Or.inl rfl) rfl rfl rfl (by decide) rfl ⟨rfl, rfl⟩ rfl ?_
      change PQ _ _ _ mm_X7_noteEnd 0 [.ref 8, .long 0, pm_un, pm_un] [] _ _ 0 0 _
      refine q_iconst rfl rfl ?_
      refine q_ist3n rfl rfl rfl rfl ?_
      refine q_iload_n rfl rfl rfl ?_
      refine q_iconst rfl rfl ?_
      refine q_icge rfl rfl (fun c58 => absurd c58 (by decide)) (fun c58 => ?_)
      refine q_aload_n rfl rfl rfl ?_
      refine q_dupr rfl rfl ?_
      refine q_getf rfl rfl (by decide) rfl rfl ?_
      refine q_lconst rfl rfl ?_
      refine q_bipush rfl rfl ?_
      refine q_iload_n rfl rfl rfl ?_
      refine q_imul rfl rfl (q_tn (z := 0) rfl ?_)
      refine q_lload_n rfl rfl rfl ?_
      refine q_iload_n rfl rfl rfl ?_
      refine q_nS2 rfl rfl (Or.inl rfl) rfl rfl ⟨rfl, rfl⟩ rfl ?_
      change PQ _ _ _ mm_X0_place 0 [.long 0, pm_un, .int 0] [] _ _ 0 0 _
      refine q_lload_n rfl rfl rfl ?_
      refine q_bipush rfl rfl ?_
      refine q_iconst rfl rfl ?_
      refine q_iload_n rfl rfl rfl ?_
      refine q_imul rfl rfl (q_tn (z := 0) rfl ?_)
      refine q_iadd rfl rfl (q_tn (z := 36) rfl ?_)
      refine q_lushr rfl rfl (q_tnl (z := 0) rfl ?_)
      refine q_l2i rfl rfl (q_tn (z := 0) rfl ?_)
      refine q_bipush rfl rfl ?_
      refine q_iand rfl rfl (q_tn (z := 0) rfl ?_)
      refine q_iret rfl rfl trivial ?_
      refine ⟨_, rfl, ?_⟩
      refine q_iadd rfl rfl (q_tn (z := 0) rfl ?_)
      refine q_lshl rfl rfl (q_tnl (z := 1) rfl ?_)
      refine q_lor rfl rfl (q_tnl (z := 1) rfl ?_)
      refine q_putf rfl rfl (by decide) rfl (by decide) rfl trivial ?_
      refine q_icc3 (z := 1) rfl rfl rfl rfl rfl ?_
      refine q_goto rfl ?_
      refine q_iload_n rfl rfl rfl ?_
      refine q_iconst rfl rfl ?_
      refine q_icge rfl rfl (fun c59 => absurd c59 (by decide)) (fun c59 => ?_)
      refine q_aload_n rfl rfl rfl ?_
      refine q_dupr rfl rfl ?_
      refine q_getf rfl rfl (by decide) rfl rfl ?_
      refine q_lconst rfl rfl ?_
      refine q_bipush rfl rfl ?_
      refine q_iload_n rfl rfl rfl ?_
      refine q_imul rfl rfl (q_tn (z := 10) rfl ?_)
      refine q_lload_n rfl rfl rfl ?_
      refine q_iload_n rfl rfl rfl ?_
      refine q_nS2 rfl rfl (Or.inl rfl) rfl rfl ⟨rfl, rfl⟩ rfl ?_
      change PQ _ _ _ mm_X0_place 0 [.long 0, pm_un, .int 1] [] _ _ 0 0 _
      refine q_lload_n rfl rfl rfl ?_
      refine q_bipush rfl rfl ?_
      refine q_iconst rfl rfl ?_
      refine q_iload_n rfl rfl rfl ?_
      refine q_imul rfl rfl (q_tn (z := 4) rfl ?_)
      refine q_iadd rfl rfl (q_tn (z := 40) rfl ?_)
      refine q_lushr rfl rfl (q_tnl (z := 0) rfl ?_)
      refine q_l2i rfl rfl (q_tn (z := 0) rfl ?_)
      refine q_bipush rfl rfl ?_
      refine q_iand rfl rfl (q_tn (z := 0) rfl ?_)
      refine q_iret rfl rfl trivial ?_
      refine ⟨_, rfl, ?_⟩
      refine q_iadd rfl rfl (q_tn (z := 10) rfl ?_)
      refine q_lshl rfl rfl (q_tnl (z := 1024) rfl ?_)
      refine q_lor rfl rfl (q_tnl (z := 1025) rfl ?_)
      refine q_putf rfl rfl (by decide) rfl (by decide) rfl trivial ?_
      refine q_icc3 (z := 2) rfl rfl rfl rfl rfl ?_
      refine q_goto rfl ?_
      refine q_iload_n rfl rfl rfl ?_
      refine q_iconst rfl rfl ?_
      refine q_icge rfl rfl (fun c60 => absurd c60 (by decide)) (fun c60 => ?_)
      refine q_aload_n rfl rfl rfl ?_
      refine q_dupr rfl rfl ?_
      refine q_getf rfl rfl (by decide) rfl rfl ?_
      refine q_lconst rfl rfl ?_
      refine q_bipush rfl rfl ?_
      refine q_iload_n rfl rfl rfl ?_
      refine q_imul rfl rfl (q_tn (z := 20) rfl ?_)
      refine q_lload_n rfl rfl rfl ?_
      refine q_iload_n rfl rfl rfl ?_
      refine q_nS2 rfl rfl (Or.inl rfl) rfl rfl ⟨rfl, rfl⟩ rfl ?_
      change PQ _ _ _ mm_X0_place 0 [.long 0, pm_un, .int 2] [] _ _ 0 0 _
      refine q_lload_n rfl rfl rfl ?_
      refine q_bipush rfl rfl ?_
      refine q_iconst rfl rfl ?_
      refine q_iload_n rfl rfl rfl ?_
      refine q_imul rfl rfl (q_tn (z := 8) rfl ?_)
      refine q_iadd rfl rfl (q_tn (z := 44) rfl ?_)
      refine q_lushr rfl rfl (q_tnl (z := 0) rfl ?_)
      refine q_l2i rfl rfl (q_tn (z := 0) rfl ?_)
      refine q_bipush rfl rfl ?_
      refine q_iand rfl rfl (q_tn (z := 0) rfl ?_)
      refine q_iret rfl rfl trivial ?_
      refine ⟨_, rfl, ?_⟩
      refine q_iadd rfl rfl (q_tn (z := 20) rfl ?_)
      refine q_lshl rfl rfl (q_tnl (z := 1048576) rfl ?_)
      refine q_lor rfl rfl (q_tnl (z := 1049601) rfl ?_)
      refine q_putf rfl rfl (by decide) rfl (by decide) rfl trivial ?_
      refine q_icc3 (z := 3) rfl rfl rfl rfl rfl ?_
      refine q_goto rfl ?_
      refine q_iload_n rfl rfl rfl ?_
      refine q_iconst rfl rfl ?_
      refine q_icge rfl rfl (fun c61 => absurd c61 (by decide)) (fun c61 => ?_)
      refine q_aload_n rfl rfl rfl ?_
      refine q_dupr rfl rfl ?_
      refine q_getf rfl rfl (by decide) rfl rfl ?_
      refine q_lconst rfl rfl ?_
      refine q_bipush rfl rfl ?_
      refine q_iload_n rfl rfl rfl ?_
      refine q_imul rfl rfl (q_tn (z := 30) rfl ?_)
      refine q_lload_n rfl rfl rfl ?_
      refine q_iload_n rfl rfl rfl ?_
      refine q_nS2 rfl rfl (Or.inl rfl) rfl rfl ⟨rfl, rfl⟩ rfl ?_
      change PQ _ _ _ mm_X0_place 0 [.long 0, pm_un, .int 3] [] _ _ 0 0 _
      refine q_lload_n rfl rfl rfl ?_
      refine q_bipush rfl rfl ?_
      refine q_iconst rfl rfl ?_
      refine q_iload_n rfl rfl rfl ?_
      refine q_imul rfl rfl (q_tn (z := 12) rfl ?_)
      refine q_iadd rfl rfl (q_tn (z := 48) rfl ?_)
      refine q_lushr rfl rfl (q_tnl (z := 0) rfl ?_)
      refine q_l2i rfl rfl (q_tn (z := 0) rfl ?_)
      refine q_bipush rfl rfl ?_
      refine q_iand rfl rfl (q_tn (z := 0) rfl ?_)
      refine q_iret rfl rfl trivial ?_
      refine ⟨_, rfl, ?_⟩
      refine q_iadd rfl rfl (q_tn (z := 30) rfl ?_)
      refine q_lshl rfl rfl (q_tnl (z := 1073741824) rfl ?_)
      refine q_lor rfl rfl (q_tnl (z := 1074791425) rfl ?_)
      refine q_putf rfl rfl (by decide) rfl (by decide) rfl trivial ?_
      refine q_icc3 (z := 4) rfl rfl rfl rfl rfl ?_
      refine q_goto rfl ?_
      refine q_iload_n rfl rfl rfl ?_
      refine q_iconst rfl rfl ?_
      refine q_icge rfl rfl (fun c62 => ?_) (fun c62 => absurd (by decide) c62)
      refine q_ret rfl rfl ?_
      refine ⟨rfl, ?_⟩
      refine q_ret rfl rfl ?_
      refine ⟨rfl, ?_⟩
      refine q_aload_n rfl rfl rfl ?_
      refine q_getf rfl rfl (by decide) rfl rfl ?_
      refine q_ifne rfl rfl (fun c63 => ?_) (fun c63 => absurd (by decide) c63)
      refine q_iload_n rfl rfl rfl ?_
      refine q_ifeq rfl rfl (fun c64 => ?_) (fun c64 => absurd (by decide) c64)
      refine q_icc3 (z := 1) rfl rfl rfl rfl rfl ?_
      refine q_goto rfl ?_
      refine q_iload_n rfl rfl rfl ?_
      refine q_sipush rfl rfl ?_
      refine q_icge rfl rfl (fun c65 => absurd c65 (by decide)) (fun c65 => ?_)
      refine q_iload_n rfl rfl rfl ?_
      refine q_aload_n rfl rfl rfl ?_
      refine q_getf rfl rfl (by decide) rfl rfl ?_
      refine q_icge rfl rfl (fun c66 => ?_) (fun c66 => absurd (by decide) c66)
      refine q_ret rfl rfl ?_
      refine ⟨rfl, ?_⟩
      refine q_aload_n rfl rfl rfl ?_
      refine q_getf rfl rfl (by decide) (FW_0 S hW) rfl ?_
      refine q_iconst rfl rfl ?_
      refine q_putf rfl rfl (by decide) rfl (by decide) rfl trivial ?_
      refine q_aload_n rfl rfl rfl ?_
      refine q_getf rfl rfl (by decide) (FW_0 S hW) rfl ?_
      refine q_iload_n rfl rfl rfl ?_
      refine q_aload_n rfl rfl rfl ?_
      refine q_getf rfl rfl (by decide) rfl rfl ?_
      refine q_ifeq rfl rfl (fun c67 => ?_) (fun c67 => absurd (by decide) c67)
      refine q_aload_n rfl rfl rfl ?_
      refine q_getf rfl rfl (by decide) rfl rfl ?_
      refine q_iast rfl rfl (by decide) (FW_44 S hW) (by decide) ?_
      refine q_aload_n rfl rfl rfl ?_
      refine q_getf rfl rfl (by decide) (FW_0 S hW) rfl ?_
      refine q_iload_n rfl rfl rfl ?_
      refine q_aload_n rfl rfl rfl ?_
      refine q_getf rfl rfl (by decide) rfl rfl ?_
      refine q_last rfl rfl (by decide) (FW_45 S hW) (by decide) ?_
      refine q_aload_n rfl rfl rfl ?_
      refine q_getf rfl rfl (by decide) (FW_0 S hW) rfl ?_
      refine q_iload_n rfl rfl rfl ?_
      refine q_iald rfl rfl (by decide) rfl (by decide) (q_tn (z := 1) rfl ?_)
      refine q_iret rfl rfl trivial ?_
      refine ⟨_, rfl, ?_⟩
      refine q_ist2n rfl rfl rfl rfl ?_
      refine q_iload_n rfl rfl rfl ?_
      refine q_bipush rfl rfl ?_
      refine q_icne rfl rfl (fun c68 => absurd c68 (by decide)) (fun c68 => ?_)
      refine q_iload_n rfl rfl rfl ?_
      refine q_iload_n rfl rfl rfl ?_
      refine q_iclt rfl rfl (fun c69 => ?_) (fun c69 => ?_)
      · have e69 : x1 = 0 := Int32.le_antisymm (i_ltle c69 (B := 0) rfl) c2
        subst e69
        refine q_iconst rfl rfl ?_
        refine q_iret rfl rfl trivial ?_
        refine ⟨_, rfl, ?_⟩
        refine q_ist3n rfl rfl rfl rfl ?_
        refine q_iload_n rfl rfl rfl ?_
        refine q_ifeq rfl rfl (fun c70 => ?_) (fun c70 => absurd (by decide) c70)
        refine q_iload_n rfl rfl rfl ?_
        refine q_aload_n rfl rfl rfl ?_
        refine q_getf rfl rfl (by decide) (FW_0 S hW) rfl ?_
        refine q_iload_n rfl rfl rfl ?_
        refine q_nV1 rfl rfl (Or.inl rfl) rfl rfl rfl (by decide) rfl ⟨rfl, rfl⟩ rfl ?_
        change PQ _ _ _ mm_X7_wayLength 0 [.ref 8, .int 0, pm_un, pm_un] [] _ _ 0 0 _
        refine q_iconst rfl rfl ?_
        refine q_ist2n rfl rfl rfl rfl ?_
        refine q_iload_n rfl rfl rfl ?_
        refine q_ist3n rfl rfl rfl rfl ?_
        refine q_iload_n rfl rfl rfl ?_
        refine q_sipush rfl rfl ?_
        refine q_icge rfl rfl (fun c71 => absurd c71 (by decide)) (fun c71 => ?_)
        refine q_iload_n rfl rfl rfl ?_
        refine q_ifle rfl rfl (fun c72 => ?_) (fun c72 => absurd (by decide) c72)
        refine q_iload_n rfl rfl rfl ?_
        refine q_iret rfl rfl trivial ?_
        refine ⟨_, rfl, ?_⟩
        refine q_iclt rfl rfl (fun c73 => absurd c73 (i_lt_f c1 rfl)) (fun c73 => ?_)
        refine q_bipush rfl rfl ?_
        refine q_goto rfl ?_
        refine q_iret rfl rfl trivial ?_
        refine ⟨_, rfl, ?_⟩
        refine q_aload_n rfl rfl rfl ?_
        refine q_aload_nF rfl rfl rfl ?_
        refine q_iload rfl rfl rfl ?_
        refine q_iconst rfl rfl ?_
        refine q_iadd rfl rfl (q_tn (z := 1) rfl ?_)
        refine q_ialdX (x := 0) rfl rfl rfl hx1 ?_
        refine q_aload_nF rfl rfl rfl ?_
        refine q_iload rfl rfl rfl ?_
        refine q_iconst rfl rfl ?_
        refine q_iadd rfl rfl (q_tn (z := 2) rfl ?_)
        refine q_ialdX (x := x2) rfl rfl rfl hx2 ?_
        refine q_nV2 rfl rfl (Or.inl rfl) rfl rfl rfl (by decide) (FW_46 S hW) ⟨rfl, rfl⟩ rfl ?_
        change PQ _ _ _ mm_X12_step 0 [.ref 46, .int 0, .int x2, pm_un, pm_un, pm_un] [] _ _ 0 0 _
        refine q_iload_n rfl rfl rfl ?_
        refine q_iflt rfl rfl (fun c74 => absurd c74 (by decide)) (fun c74 => ?_)
        refine q_iload_n rfl rfl rfl ?_
        refine q_ifge rfl rfl (fun c75 => ?_) (fun c75 => absurd (i_ge_t c1 rfl) c75)
        refine q_aload_n rfl rfl rfl ?_
        refine q_iload_n rfl rfl rfl ?_
        refine q_nV1 rfl rfl (Or.inl rfl) rfl rfl rfl (by decide) (FW_46 S hW) ⟨rfl, rfl⟩ rfl ?_
        change PQ _ _ _ mm_X12_lacks 0 [.ref 46, .int 0] [] _ _ 0 0 _
        refine q_iload_n rfl rfl rfl ?_
        refine q_ifge rfl rfl (fun c76 => ?_) (fun c76 => absurd (by decide) c76)
        refine q_aload_n rfl rfl rfl ?_
        refine q_iconst rfl rfl ?_
        refine q_nV1 rfl rfl (Or.inl rfl) rfl rfl rfl (by decide) (FW_46 S hW) ⟨rfl, rfl⟩ rfl ?_
        change PQ _ _ _ mm_X12_isSpent 0 [.ref 46, .int 0, pm_un, pm_un, pm_un] [] _ _ 0 0 _
        refine q_iload_n rfl rfl rfl ?_
        refine q_ifne rfl rfl (fun c77 => ?_) (fun c77 => absurd (by decide) c77)
        refine q_iconst rfl rfl ?_
        refine q_goto rfl ?_
        refine q_ist2n rfl rfl rfl rfl ?_
        refine q_aload_n rfl rfl rfl ?_
        refine q_iconst rfl rfl ?_
        refine q_putf rfl rfl (by decide) (FW_46 S hW) (by decide) rfl trivial ?_
        refine q_aload_n rfl rfl rfl ?_
        refine q_getf rfl rfl (by decide) rfl rfl ?_
        refine q_iload_n rfl rfl rfl ?_
        refine q_iald rfl rfl (by decide) (FW_62 S hW) (by decide) (q_tn (z := 0) rfl ?_)
        refine q_ifeq rfl rfl (fun c78 => ?_) (fun c78 => absurd (by decide) c78)
        refine q_aload_n rfl rfl rfl ?_
        refine q_getf rfl rfl (by decide) rfl rfl ?_
        refine q_iload_n rfl rfl rfl ?_
        refine q_aload_n rfl rfl rfl ?_
        refine q_iload_n rfl rfl rfl ?_
        refine q_iload_n rfl rfl rfl ?_
        refine q_nV2 rfl rfl (Or.inl rfl) rfl rfl rfl (by decide) rfl ⟨rfl, rfl⟩ rfl ?_
        change PQ _ _ _ mm_X12_explore 0 [.ref 46, .int 0, .int 0, pm_un, pm_un, pm_un, pm_un, pm_un] [] _ _ 0 0 _
        refine q_iconst rfl rfl ?_
        refine q_ist3n rfl rfl rfl rfl ?_
        refine l_net (R := 0) (by decide) rfl (by decide) rfl rfl (FW_61 S hW) ?_
        refine q_aload_n rfl rfl rfl ?_
        refine q_getf rfl rfl (by decide) rfl rfl ?_
        refine q_iload_n rfl rfl rfl ?_
        refine q_iconst rfl rfl ?_
        refine q_iast rfl rfl (by decide) (FW_60 S hW) (by decide) ?_
        refine q_aload_n rfl rfl rfl ?_
        refine q_nV0v rfl rfl (Or.inl rfl) rfl rfl rfl (by decide) rfl ⟨rfl, rfl⟩ rfl ?_
        change PQ _ _ _ mm_X12_firstState 0 [.ref 46, pm_un] [] _ _ 0 0 _
        refine q_iconst rfl rfl ?_
        refine q_ist1n rfl rfl rfl rfl ?_
        refine q_iload_n rfl rfl rfl ?_
        refine q_bipush rfl rfl ?_
        refine q_icge rfl rfl (fun c79 => absurd c79 (by decide)) (fun c79 => ?_)
        refine q_aload_n rfl rfl rfl ?_
        refine q_getf rfl rfl (by decide) rfl rfl ?_
        refine q_iload_n rfl rfl rfl ?_
        refine q_iconst rfl rfl ?_
        refine q_iast rfl rfl (by decide) (FW_52 S hW) (by decide) ?_
        refine q_icc1 (z := 1) rfl rfl rfl rfl rfl ?_
        refine q_goto rfl ?_
        refine q_iload_n rfl rfl rfl ?_
        refine q_bipush rfl rfl ?_
        refine q_icge rfl rfl (fun c80 => absurd c80 (by decide)) (fun c80 => ?_)
        refine q_aload_n rfl rfl rfl ?_
        refine q_getf rfl rfl (by decide) rfl rfl ?_
        refine q_iload_n rfl rfl rfl ?_
        refine q_iconst rfl rfl ?_
        refine q_iast rfl rfl (by decide) rfl (by decide) ?_
        refine q_icc1 (z := 2) rfl rfl rfl rfl rfl ?_
        refine q_goto rfl ?_
        refine q_iload_n rfl rfl rfl ?_
        refine q_bipush rfl rfl ?_
        refine q_icge rfl rfl (fun c81 => absurd c81 (by decide)) (fun c81 => ?_)
        refine q_aload_n rfl rfl rfl ?_
        refine q_getf rfl rfl (by decide) rfl rfl ?_
        refine q_iload_n rfl rfl rfl ?_
        refine q_iconst rfl rfl ?_
        refine q_iast rfl rfl (by decide) rfl (by decide) ?_
        refine q_icc1 (z := 3) rfl rfl rfl rfl rfl ?_
        refine q_goto rfl ?_
        refine q_iload_n rfl rfl rfl ?_
        refine q_bipush rfl rfl ?_
        refine q_icge rfl rfl (fun c82 => absurd c82 (by decide)) (fun c82 => ?_)
        refine q_aload_n rfl rfl rfl ?_
        refine q_getf rfl rfl (by decide) rfl rfl ?_
        refine q_iload_n rfl rfl rfl ?_
        refine q_iconst rfl rfl ?_
        refine q_iast rfl rfl (by decide) rfl (by decide) ?_
        refine q_icc1 (z := 4) rfl rfl rfl rfl rfl ?_
        refine q_goto rfl ?_
        refine q_iload_n rfl rfl rfl ?_
        refine q_bipush rfl rfl ?_
        refine q_icge rfl rfl (fun c83 => absurd c83 (by decide)) (fun c83 => ?_)
        refine q_aload_n rfl rfl rfl ?_
        refine q_getf rfl rfl (by decide) rfl rfl ?_
        refine q_iload_n rfl rfl rfl ?_
        refine q_iconst rfl rfl ?_
        refine q_iast rfl rfl (by decide) rfl (by decide) ?_
        refine q_icc1 (z := 5) rfl rfl rfl rfl rfl ?_
        refine q_goto rfl ?_
        refine q_iload_n rfl rfl rfl ?_
        refine q_bipush rfl rfl ?_
        refine q_icge rfl rfl (fun c84 => absurd c84 (by decide)) (fun c84 => ?_)
        refine q_aload_n rfl rfl rfl ?_
        refine q_getf rfl rfl (by decide) rfl rfl ?_
        refine q_iload_n rfl rfl rfl ?_
        refine q_iconst rfl rfl ?_
        refine q_iast rfl rfl (by decide) rfl (by decide) ?_
        refine q_icc1 (z := 6) rfl rfl rfl rfl rfl ?_
        refine q_goto rfl ?_
        refine q_iload_n rfl rfl rfl ?_
        refine q_bipush rfl rfl ?_
        refine q_icge rfl rfl (fun c85 => absurd c85 (by decide)) (fun c85 => ?_)
        refine q_aload_n rfl rfl rfl ?_
        refine q_getf rfl rfl (by decide) rfl rfl ?_
        refine q_iload_n rfl rfl rfl ?_
        refine q_iconst rfl rfl ?_
        refine q_iast rfl rfl (by decide) rfl (by decide) ?_
        refine q_icc1 (z := 7) rfl rfl rfl rfl rfl ?_
        refine q_goto rfl ?_
        refine q_iload_n rfl rfl rfl ?_
        refine q_bipush rfl rfl ?_
        refine q_icge rfl rfl (fun c86 => absurd c86 (by decide)) (fun c86 => ?_)
        refine q_aload_n rfl rfl rfl ?_
        refine q_getf rfl rfl (by decide) rfl rfl ?_
        refine q_iload_n rfl rfl rfl ?_
        refine q_iconst rfl rfl ?_
        refine q_iast rfl rfl (by decide) rfl (by decide) ?_
        refine q_icc1 (z := 8) rfl rfl rfl rfl rfl ?_
        refine q_goto rfl ?_
        refine q_iload_n rfl rfl rfl ?_
        refine q_bipush rfl rfl ?_
        refine q_icge rfl rfl (fun c87 => absurd c87 (by decide)) (fun c87 => ?_)
        refine q_aload_n rfl rfl rfl ?_
        refine q_getf rfl rfl (by decide) rfl rfl ?_
        refine q_iload_n rfl rfl rfl ?_
        refine q_iconst rfl rfl ?_
        refine q_iast rfl rfl (by decide) rfl (by decide) ?_
        refine q_icc1 (z := 9) rfl rfl rfl rfl rfl ?_
        refine q_goto rfl ?_
        refine q_iload_n rfl rfl rfl ?_
        refine q_bipush rfl rfl ?_
        refine q_icge rfl rfl (fun c88 => absurd c88 (by decide)) (fun c88 => ?_)
        refine q_aload_n rfl rfl rfl ?_
        refine q_getf rfl rfl (by decide) rfl rfl ?_
        refine q_iload_n rfl rfl rfl ?_
        refine q_iconst rfl rfl ?_
        refine q_iast rfl rfl (by decide) rfl (by decide) ?_
        refine q_icc1 (z := 10) rfl rfl rfl rfl rfl ?_
        refine q_goto rfl ?_
        refine q_iload_n rfl rfl rfl ?_
        refine q_bipush rfl rfl ?_
        refine q_icge rfl rfl (fun c89 => absurd c89 (by decide)) (fun c89 => ?_)
        refine q_aload_n rfl rfl rfl ?_
        refine q_getf rfl rfl (by decide) rfl rfl ?_
        refine q_iload_n rfl rfl rfl ?_
        refine q_iconst rfl rfl ?_
        refine q_iast rfl rfl (by decide) rfl (by decide) ?_
        refine q_icc1 (z := 11) rfl rfl rfl rfl rfl ?_
        refine q_goto rfl ?_
        refine q_iload_n rfl rfl rfl ?_
        refine q_bipush rfl rfl ?_
        refine q_icge rfl rfl (fun c90 => absurd c90 (by decide)) (fun c90 => ?_)
        refine q_aload_n rfl rfl rfl ?_
        refine q_getf rfl rfl (by decide) rfl rfl ?_
        refine q_iload_n rfl rfl rfl ?_
        refine q_iconst rfl rfl ?_
        refine q_iast rfl rfl (by decide) rfl (by decide) ?_
        refine q_icc1 (z := 12) rfl rfl rfl rfl rfl ?_
        refine q_goto rfl ?_
        refine q_iload_n rfl rfl rfl ?_
        refine q_bipush rfl rfl ?_
        refine q_icge rfl rfl (fun c91 => absurd c91 (by decide)) (fun c91 => ?_)
        refine q_aload_n rfl rfl rfl ?_
        refine q_getf rfl rfl (by decide) rfl rfl ?_
        refine q_iload_n rfl rfl rfl ?_
        refine q_iconst rfl rfl ?_
        refine q_iast rfl rfl (by decide) rfl (by decide) ?_
        refine q_icc1 (z := 13) rfl rfl rfl rfl rfl ?_
        refine q_goto rfl ?_
        refine q_iload_n rfl rfl rfl ?_
        refine q_bipush rfl rfl ?_
        refine q_icge rfl rfl (fun c92 => absurd c92 (by decide)) (fun c92 => ?_)
        refine q_aload_n rfl rfl rfl ?_
        refine q_getf rfl rfl (by decide) rfl rfl ?_
        refine q_iload_n rfl rfl rfl ?_
        refine q_iconst rfl rfl ?_
        refine q_iast rfl rfl (by decide) rfl (by decide) ?_
        refine q_icc1 (z := 14) rfl rfl rfl rfl rfl ?_
        refine q_goto rfl ?_
        refine q_iload_n rfl rfl rfl ?_
        refine q_bipush rfl rfl ?_
        refine q_icge rfl rfl (fun c93 => absurd c93 (by decide)) (fun c93 => ?_)
        refine q_aload_n rfl rfl rfl ?_
        refine q_getf rfl rfl (by decide) rfl rfl ?_
        refine q_iload_n rfl rfl rfl ?_
        refine q_iconst rfl rfl ?_
        refine q_iast rfl rfl (by decide) rfl (by decide) ?_
        refine q_icc1 (z := 15) rfl rfl rfl rfl rfl ?_
        refine q_goto rfl ?_
        refine q_iload_n rfl rfl rfl ?_
        refine q_bipush rfl rfl ?_
        refine q_icge rfl rfl (fun c94 => absurd c94 (by decide)) (fun c94 => ?_)
        refine q_aload_n rfl rfl rfl ?_
        refine q_getf rfl rfl (by decide) rfl rfl ?_
        refine q_iload_n rfl rfl rfl ?_
        refine q_iconst rfl rfl ?_
        refine q_iast rfl rfl (by decide) rfl (by decide) ?_
        refine q_icc1 (z := 16) rfl rfl rfl rfl rfl ?_
        refine q_goto rfl ?_
        refine q_iload_n rfl rfl rfl ?_
        refine q_bipush rfl rfl ?_
        refine q_icge rfl rfl (fun c95 => absurd c95 (by decide)) (fun c95 => ?_)
        refine q_aload_n rfl rfl rfl ?_
        refine q_getf rfl rfl (by decide) rfl rfl ?_
        refine q_iload_n rfl rfl rfl ?_
        refine q_iconst rfl rfl ?_
        refine q_iast rfl rfl (by decide) rfl (by decide) ?_
        refine q_icc1 (z := 17) rfl rfl rfl rfl rfl ?_
        refine q_goto rfl ?_
        refine q_iload_n rfl rfl rfl ?_
        refine q_bipush rfl rfl ?_
        refine q_icge rfl rfl (fun c96 => absurd c96 (by decide)) (fun c96 => ?_)
        refine q_aload_n rfl rfl rfl ?_
        refine q_getf rfl rfl (by decide) rfl rfl ?_
        refine q_iload_n rfl rfl rfl ?_
        refine q_iconst rfl rfl ?_
        refine q_iast rfl rfl (by decide) rfl (by decide) ?_
        refine q_icc1 (z := 18) rfl rfl rfl rfl rfl ?_
        refine q_goto rfl ?_
        refine q_iload_n rfl rfl rfl ?_
        refine q_bipush rfl rfl ?_
        refine q_icge rfl rfl (fun c97 => absurd c97 (by decide)) (fun c97 => ?_)
        refine q_aload_n rfl rfl rfl ?_
        refine q_getf rfl rfl (by decide) rfl rfl ?_
        refine q_iload_n rfl rfl rfl ?_
        refine q_iconst rfl rfl ?_
        refine q_iast rfl rfl (by decide) rfl (by decide) ?_
        refine q_icc1 (z := 19) rfl rfl rfl rfl rfl ?_
        refine q_goto rfl ?_
        refine q_iload_n rfl rfl rfl ?_
        refine q_bipush rfl rfl ?_
        refine q_icge rfl rfl (fun c98 => absurd c98 (by decide)) (fun c98 => ?_)
        refine q_aload_n rfl rfl rfl ?_
        refine q_getf rfl rfl (by decide) rfl rfl ?_
        refine q_iload_n rfl rfl rfl ?_
        refine q_iconst rfl rfl ?_
        refine q_iast rfl rfl (by decide) rfl (by decide) ?_
        refine q_icc1 (z := 20) rfl rfl rfl rfl rfl ?_
        refine q_goto rfl ?_
        refine q_iload_n rfl rfl rfl ?_
        refine q_bipush rfl rfl ?_
        refine q_icge rfl rfl (fun c99 => ?_) (fun c99 => absurd (by decide) c99)
        refine q_iconst rfl rfl ?_
        refine q_ist1n rfl rfl rfl rfl ?_
        refine q_iload_n rfl rfl rfl ?_
        refine q_aload_n rfl rfl rfl ?_
        refine q_getf rfl rfl (by decide) rfl rfl ?_
        refine q_icge rfl rfl (fun c100 => absurd c100 (by decide)) (fun c100 => ?_)
        refine q_aload_n rfl rfl rfl ?_
        refine q_getf rfl rfl (by decide) rfl rfl ?_
        refine q_iconst rfl rfl ?_
        refine q_iload_n rfl rfl rfl ?_
        refine q_imul rfl rfl (q_tn (z := 0) rfl ?_)
        refine q_aload_n rfl rfl rfl ?_
        refine q_getf rfl rfl (by decide) rfl rfl ?_
        refine q_aload_n rfl rfl rfl ?_
        refine q_getf rfl rfl (by decide) rfl rfl ?_
        refine q_iload_n rfl rfl rfl ?_
        refine q_iadd rfl rfl (q_tn (z := 0) rfl ?_)
        refine q_iald rfl rfl (by decide) (FW_47 S hW) (by decide) (q_tn (z := 0) rfl ?_)
        refine q_ifne rfl rfl (fun c101 => ?_) (fun c101 => absurd (by decide) c101)
        refine q_bipush rfl rfl ?_
        refine q_goto rfl ?_
        refine q_iast rfl rfl (by decide) rfl (by decide) ?_
        refine q_icc1 (z := 1) rfl rfl rfl rfl rfl ?_
        refine q_goto rfl ?_
        refine q_iload_n rfl rfl rfl ?_
        refine q_aload_n rfl rfl rfl ?_
        refine q_getf rfl rfl (by decide) rfl rfl ?_
        refine q_icge rfl rfl (fun c102 => ?_) (fun c102 => absurd (by decide) c102)
        refine q_iconst rfl rfl ?_
        refine q_ist1n rfl rfl rfl rfl ?_
        refine q_iload_n rfl rfl rfl ?_
        refine q_iconst rfl rfl ?_
        refine q_icge rfl rfl (fun c103 => absurd c103 (by decide)) (fun c103 => ?_)
        refine q_aload_n rfl rfl rfl ?_
        refine q_getf rfl rfl (by decide) rfl rfl ?_
        refine q_bipush rfl rfl ?_
        refine q_iload_n rfl rfl rfl ?_
        refine q_iadd rfl rfl (q_tn (z := 12) rfl ?_)
        refine q_aload_n rfl rfl rfl ?_
        refine q_getf rfl rfl (by decide) rfl rfl ?_
        refine q_iload_n rfl rfl rfl ?_
        refine q_iald rfl rfl (by decide) (FW_51 S hW) (by decide) (q_tn (z := 0) rfl ?_)
        refine q_iast rfl rfl (by decide) rfl (by decide) ?_
        refine q_icc1 (z := 1) rfl rfl rfl rfl rfl ?_
        refine q_goto rfl ?_
        refine q_iload_n rfl rfl rfl ?_
        refine q_iconst rfl rfl ?_
        refine q_icge rfl rfl (fun c104 => absurd c104 (by decide)) (fun c104 => ?_)
        refine q_aload_n rfl rfl rfl ?_
        refine q_getf rfl rfl (by decide) rfl rfl ?_
        refine q_bipush rfl rfl ?_
        refine q_iload_n rfl rfl rfl ?_
        refine q_iadd rfl rfl (q_tn (z := 13) rfl ?_)
        refine q_aload_n rfl rfl rfl ?_
        refine q_getf rfl rfl (by decide) rfl rfl ?_
        refine q_iload_n rfl rfl rfl ?_
        refine q_iald rfl rfl (by decide) (FW_51 S hW) (by decide) (q_tn (z := 0) rfl ?_)
        refine q_iast rfl rfl (by decide) rfl (by decide) ?_
        refine q_icc1 (z := 2) rfl rfl rfl rfl rfl ?_
        refine q_goto rfl ?_
        refine q_iload_n rfl rfl rfl ?_
        refine q_iconst rfl rfl ?_
        refine q_icge rfl rfl (fun c105 => absurd c105 (by decide)) (fun c105 => ?_)
        refine q_aload_n rfl rfl rfl ?_
        refine q_getf rfl rfl (by decide) rfl rfl ?_
        refine q_bipush rfl rfl ?_
        refine q_iload_n rfl rfl rfl ?_
        refine q_iadd rfl rfl (q_tn (z := 14) rfl ?_)
        refine q_aload_n rfl rfl rfl ?_
        refine q_getf rfl rfl (by decide) rfl rfl ?_
        refine q_iload_n rfl rfl rfl ?_
        refine q_iald rfl rfl (by decide) (FW_51 S hW) (by decide) (q_tn (z := 0) rfl ?_)
        refine q_iast rfl rfl (by decide) rfl (by decide) ?_
        refine q_icc1 (z := 3) rfl rfl rfl rfl rfl ?_
        refine q_goto rfl ?_
        refine q_iload_n rfl rfl rfl ?_
        refine q_iconst rfl rfl ?_
        refine q_icge rfl rfl (fun c106 => absurd c106 (by decide)) (fun c106 => ?_)
        refine q_aload_n rfl rfl rfl ?_
        refine q_getf rfl rfl (by decide) rfl rfl ?_
        refine q_bipush rfl rfl ?_
        refine q_iload_n rfl rfl rfl ?_
        refine q_iadd rfl rfl (q_tn (z := 15) rfl ?_)
        refine q_aload_n rfl rfl rfl ?_
        refine q_getf rfl rfl (by decide) rfl rfl ?_
        refine q_iload_n rfl rfl rfl ?_
        refine q_iald rfl rfl (by decide) (FW_51 S hW) (by decide) (q_tn (z := 0) rfl ?_)
        refine q_iast rfl rfl (by decide) rfl (by decide) ?_
        refine q_icc1 (z := 4) rfl rfl rfl rfl rfl ?_
        refine q_goto rfl ?_
        refine q_iload_n rfl rfl rfl ?_
        refine q_iconst rfl rfl ?_
        refine q_icge rfl rfl (fun c107 => ?_) (fun c107 => absurd (by decide) c107)
        refine q_ret rfl rfl ?_
        refine ⟨rfl, ?_⟩
        refine q_iconst rfl rfl ?_
        refine q_ist3n rfl rfl rfl rfl ?_
        refine q_iload_n rfl rfl rfl ?_
        refine q_bipush rfl rfl ?_
        refine q_icge rfl rfl (fun c108 => absurd c108 (by decide)) (fun c108 => ?_)
        refine q_aload_n rfl rfl rfl ?_
        refine q_getf rfl rfl (by decide) rfl rfl ?_
        refine q_iload_n rfl rfl rfl ?_
        refine q_aload_n rfl rfl rfl ?_
        refine q_getf rfl rfl (by decide) rfl rfl ?_
        refine q_iload_n rfl rfl rfl ?_
        refine q_iald rfl rfl (by decide) rfl (by decide) (q_tn (z := 10) rfl ?_)
        refine q_iast rfl rfl (by decide) (FW_53 S hW) (by decide) ?_
        refine q_icc3 (z := 1) rfl rfl rfl rfl rfl ?_
        refine q_goto rfl ?_
        refine q_iload_n rfl rfl rfl ?_
        refine q_bipush rfl rfl ?_
        refine q_icge rfl rfl (fun c109 => absurd c109 (by decide)) (fun c109 => ?_)
        refine q_aload_n rfl rfl rfl ?_
        refine q_getf rfl rfl (by decide) rfl rfl ?_
        refine q_iload_n rfl rfl rfl ?_
        refine q_aload_n rfl rfl rfl ?_
        refine q_getf rfl rfl (by decide) rfl rfl ?_
        refine q_iload_n rfl rfl rfl ?_
        refine q_iald rfl rfl (by decide) rfl (by decide) (q_tn (z := 0) rfl ?_)
        refine q_iast rfl rfl (by decide) rfl (by decide) ?_
        refine q_icc3 (z := 2) rfl rfl rfl rfl rfl ?_
        refine q_goto rfl ?_
        refine q_iload_n rfl rfl rfl ?_
        refine q_bipush rfl rfl ?_
        refine q_icge rfl rfl (fun c110 => absurd c110 (by decide)) (fun c110 => ?_)
        refine q_aload_n rfl rfl rfl ?_
        refine q_getf rfl rfl (by decide) rfl rfl ?_
        refine q_iload_n rfl rfl rfl ?_
        refine q_aload_n rfl rfl rfl ?_
        refine q_getf rfl rfl (by decide) rfl rfl ?_
        refine q_iload_n rfl rfl rfl ?_
        refine q_iald rfl rfl (by decide) rfl (by decide) (q_tn (z := 0) rfl ?_)
        refine q_iast rfl rfl (by decide) rfl (by decide) ?_
        refine q_icc3 (z := 3) rfl rfl rfl rfl rfl ?_
        refine q_goto rfl ?_
        refine q_iload_n rfl rfl rfl ?_
        refine q_bipush rfl rfl ?_
        refine q_icge rfl rfl (fun c111 => absurd c111 (by decide)) (fun c111 => ?_)
        refine q_aload_n rfl rfl rfl ?_
        refine q_getf rfl rfl (by decide) rfl rfl ?_
        refine q_iload_n rfl rfl rfl ?_
        refine q_aload_n rfl rfl rfl ?_
        refine q_getf rfl rfl (by decide) rfl rfl ?_
        refine q_iload_n rfl rfl rfl ?_
        refine q_iald rfl rfl (by decide) rfl (by decide) (q_tn (z := 0) rfl ?_)
        refine q_iast rfl rfl (by decide) rfl (by decide) ?_
        refine q_icc3 (z := 4) rfl rfl rfl rfl rfl ?_
        refine q_goto rfl ?_
        refine q_iload_n rfl rfl rfl ?_
        refine q_bipush rfl rfl ?_
        refine q_icge rfl rfl (fun c112 => absurd c112 (by decide)) (fun c112 => ?_)
        refine q_aload_n rfl rfl rfl ?_
        refine q_getf rfl rfl (by decide) rfl rfl ?_
        refine q_iload_n rfl rfl rfl ?_
        refine q_aload_n rfl rfl rfl ?_
        refine q_getf rfl rfl (by decide) rfl rfl ?_
        refine q_iload_n rfl rfl rfl ?_
        refine q_iald rfl rfl (by decide) rfl (by decide) (q_tn (z := 0) rfl ?_)
        refine q_iast rfl rfl (by decide) rfl (by decide) ?_
        refine q_icc3 (z := 5) rfl rfl rfl rfl rfl ?_
        refine q_goto rfl ?_
        refine q_iload_n rfl rfl rfl ?_
        refine q_bipush rfl rfl ?_
        refine q_icge rfl rfl (fun c113 => absurd c113 (by decide)) (fun c113 => ?_)
        refine q_aload_n rfl rfl rfl ?_
        refine q_getf rfl rfl (by decide) rfl rfl ?_
        refine q_iload_n rfl rfl rfl ?_
        refine q_aload_n rfl rfl rfl ?_
        refine q_getf rfl rfl (by decide) rfl rfl ?_
        refine q_iload_n rfl rfl rfl ?_
        refine q_iald rfl rfl (by decide) rfl (by decide) (q_tn (z := 0) rfl ?_)
        refine q_iast rfl rfl (by decide) rfl (by decide) ?_
        refine q_icc3 (z := 6) rfl rfl rfl rfl rfl ?_
        refine q_goto rfl ?_
        refine q_iload_n rfl rfl rfl ?_
        refine q_bipush rfl rfl ?_
        refine q_icge rfl rfl (fun c114 => absurd c114 (by decide)) (fun c114 => ?_)
        refine q_aload_n rfl rfl rfl ?_
        refine q_getf rfl rfl (by decide) rfl rfl ?_
        refine q_iload_n rfl rfl rfl ?_
        refine q_aload_n rfl rfl rfl ?_
        refine q_getf rfl rfl (by decide) rfl rfl ?_
        refine q_iload_n rfl rfl rfl ?_
        refine q_iald rfl rfl (by decide) rfl (by decide) (q_tn (z := 0) rfl ?_)
        refine q_iast rfl rfl (by decide) rfl (by decide) ?_
        refine q_icc3 (z := 7) rfl rfl rfl rfl rfl ?_
        refine q_goto rfl ?_
        refine q_iload_n rfl rfl rfl ?_
        refine q_bipush rfl rfl ?_
        refine q_icge rfl rfl (fun c115 => absurd c115 (by decide)) (fun c115 => ?_)
        refine q_aload_n rfl rfl rfl ?_
        refine q_getf rfl rfl (by decide) rfl rfl ?_
        refine q_iload_n rfl rfl rfl ?_
        refine q_aload_n rfl rfl rfl ?_
        refine q_getf rfl rfl (by decide) rfl rfl ?_
        refine q_iload_n rfl rfl rfl ?_
        refine q_iald rfl rfl (by decide) rfl (by decide) (q_tn (z := 0) rfl ?_)
        refine q_iast rfl rfl (by decide) rfl (by decide) ?_
        refine q_icc3 (z := 8) rfl rfl rfl rfl rfl ?_
        refine q_goto rfl ?_
        refine q_iload_n rfl rfl rfl ?_
        refine q_bipush rfl rfl ?_
        refine q_icge rfl rfl (fun c116 => absurd c116 (by decide)) (fun c116 => ?_)
        refine q_aload_n rfl rfl rfl ?_
        refine q_getf rfl rfl (by decide) rfl rfl ?_
        refine q_iload_n rfl rfl rfl ?_
        refine q_aload_n rfl rfl rfl ?_
        refine q_getf rfl rfl (by decide) rfl rfl ?_
        refine q_iload_n rfl rfl rfl ?_
        refine q_iald rfl rfl (by decide) rfl (by decide) (q_tn (z := 0) rfl ?_)
        refine q_iast rfl rfl (by decide) rfl (by decide) ?_
        refine q_icc3 (z := 9) rfl rfl rfl rfl rfl ?_
        refine q_goto rfl ?_
        refine q_iload_n rfl rfl rfl ?_
        refine q_bipush rfl rfl ?_
        refine q_icge rfl rfl (fun c117 => absurd c117 (by decide)) (fun c117 => ?_)
        refine q_aload_n rfl rfl rfl ?_
        refine q_getf rfl rfl (by decide) rfl rfl ?_
        refine q_iload_n rfl rfl rfl ?_
        refine q_aload_n rfl rfl rfl ?_
        refine q_getf rfl rfl (by decide) rfl rfl ?_
        refine q_iload_n rfl rfl rfl ?_
        refine q_iald rfl rfl (by decide) rfl (by decide) (q_tn (z := 0) rfl ?_)
        refine q_iast rfl rfl (by decide) rfl (by decide) ?_
        refine q_icc3 (z := 10) rfl rfl rfl rfl rfl ?_
        refine q_goto rfl ?_
        refine q_iload_n rfl rfl rfl ?_
        refine q_bipush rfl rfl ?_
        refine q_icge rfl rfl (fun c118 => absurd c118 (by decide)) (fun c118 => ?_)
        refine q_aload_n rfl rfl rfl ?_
        refine q_getf rfl rfl (by decide) rfl rfl ?_
        refine q_iload_n rfl rfl rfl ?_
        refine q_aload_n rfl rfl rfl ?_
        refine q_getf rfl rfl (by decide) rfl rfl ?_
        refine q_iload_n rfl rfl rfl ?_
        refine q_iald rfl rfl (by decide) rfl (by decide) (q_tn (z := 0) rfl ?_)
        refine q_iast rfl rfl (by decide) rfl (by decide) ?_
        refine q_icc3 (z := 11) rfl rfl rfl rfl rfl ?_
        refine q_goto rfl ?_
        refine q_iload_n rfl rfl rfl ?_
        refine q_bipush rfl rfl ?_
        refine q_icge rfl rfl (fun c119 => absurd c119 (by decide)) (fun c119 => ?_)
        refine q_aload_n rfl rfl rfl ?_
        refine q_getf rfl rfl (by decide) rfl rfl ?_
        refine q_iload_n rfl rfl rfl ?_
        refine q_aload_n rfl rfl rfl ?_
        refine q_getf rfl rfl (by decide) rfl rfl ?_
        refine q_iload_n rfl rfl rfl ?_
        refine q_iald rfl rfl (by decide) rfl (by decide) (q_tn (z := 0) rfl ?_)
        refine q_iast rfl rfl (by decide) rfl (by decide) ?_
        refine q_icc3 (z := 12) rfl rfl rfl rfl rfl ?_
        refine q_goto rfl ?_
        refine q_iload_n rfl rfl rfl ?_
        refine q_bipush rfl rfl ?_
        refine q_icge rfl rfl (fun c120 => absurd c120 (by decide)) (fun c120 => ?_)
        refine q_aload_n rfl rfl rfl ?_
        refine q_getf rfl rfl (by decide) rfl rfl ?_
        refine q_iload_n rfl rfl rfl ?_
        refine q_aload_n rfl rfl rfl ?_
        refine q_getf rfl rfl (by decide) rfl rfl ?_
        refine q_iload_n rfl rfl rfl ?_
        refine q_iald rfl rfl (by decide) rfl (by decide) (q_tn (z := 0) rfl ?_)
        refine q_iast rfl rfl (by decide) rfl (by decide) ?_
        refine q_icc3 (z := 13) rfl rfl rfl rfl rfl ?_
        refine q_goto rfl ?_
        refine q_iload_n rfl rfl rfl ?_
        refine q_bipush rfl rfl ?_
        refine q_icge rfl rfl (fun c121 => absurd c121 (by decide)) (fun c121 => ?_)
        refine q_aload_n rfl rfl rfl ?_
        refine q_getf rfl rfl (by decide) rfl rfl ?_
        refine q_iload_n rfl rfl rfl ?_
        refine q_aload_n rfl rfl rfl ?_
        refine q_getf rfl rfl (by decide) rfl rfl ?_
        refine q_iload_n rfl rfl rfl ?_
        refine q_iald rfl rfl (by decide) rfl (by decide) (q_tn (z := 0) rfl ?_)
        refine q_iast rfl rfl (by decide) rfl (by decide) ?_
        refine q_icc3 (z := 14) rfl rfl rfl rfl rfl ?_
        refine q_goto rfl ?_
        refine q_iload_n rfl rfl rfl ?_
        refine q_bipush rfl rfl ?_
        refine q_icge rfl rfl (fun c122 => absurd c122 (by decide)) (fun c122 => ?_)
        refine q_aload_n rfl rfl rfl ?_
        refine q_getf rfl rfl (by decide) rfl rfl ?_
        refine q_iload_n rfl rfl rfl ?_
        refine q_aload_n rfl rfl rfl ?_
        refine q_getf rfl rfl (by decide) rfl rfl ?_
        refine q_iload_n rfl rfl rfl ?_
        refine q_iald rfl rfl (by decide) rfl (by decide) (q_tn (z := 0) rfl ?_)
        refine q_iast rfl rfl (by decide) rfl (by decide) ?_
        refine q_icc3 (z := 15) rfl rfl rfl rfl rfl ?_
        refine q_goto rfl ?_
        refine q_iload_n rfl rfl rfl ?_
        refine q_bipush rfl rfl ?_
        refine q_icge rfl rfl (fun c123 => absurd c123 (by decide)) (fun c123 => ?_)
        refine q_aload_n rfl rfl rfl ?_
        refine q_getf rfl rfl (by decide) rfl rfl ?_
        refine q_iload_n rfl rfl rfl ?_
        refine q_aload_n rfl rfl rfl ?_
        refine q_getf rfl rfl (by decide) rfl rfl ?_
        refine q_iload_n rfl rfl rfl ?_
        refine q_iald rfl rfl (by decide) rfl (by decide) (q_tn (z := 0) rfl ?_)
        refine q_iast rfl rfl (by decide) rfl (by decide) ?_
        refine q_icc3 (z := 16) rfl rfl rfl rfl rfl ?_
        refine q_goto rfl ?_
        refine q_iload_n rfl rfl rfl ?_
        refine q_bipush rfl rfl ?_
        refine q_icge rfl rfl (fun c124 => absurd c124 (by decide)) (fun c124 => ?_)
        refine q_aload_n rfl rfl rfl ?_
        refine q_getf rfl rfl (by decide) rfl rfl ?_
        refine q_iload_n rfl rfl rfl ?_
        refine q_aload_n rfl rfl rfl ?_
        refine q_getf rfl rfl (by decide) rfl rfl ?_
        refine q_iload_n rfl rfl rfl ?_
        refine q_iald rfl rfl (by decide) rfl (by decide) (q_tn (z := 0) rfl ?_)
        refine q_iast rfl rfl (by decide) rfl (by decide) ?_
        refine q_icc3 (z := 17) rfl rfl rfl rfl rfl ?_
        refine q_goto rfl ?_
        refine q_iload_n rfl rfl rfl ?_
        refine q_bipush rfl rfl ?_
        refine q_icge rfl rfl (fun c125 => absurd c125 (by decide)) (fun c125 => ?_)
        refine q_aload_n rfl rfl rfl ?_
        refine q_getf rfl rfl (by decide) rfl rfl ?_
        refine q_iload_n rfl rfl rfl ?_
        refine q_aload_n rfl rfl rfl ?_
        refine q_getf rfl rfl (by decide) rfl rfl ?_
        refine q_iload_n rfl rfl rfl ?_
        refine q_iald rfl rfl (by decide) rfl (by decide) (q_tn (z := 0) rfl ?_)
        refine q_iast rfl rfl (by decide) rfl (by decide) ?_
        refine q_icc3 (z := 18) rfl rfl rfl rfl rfl ?_
        refine q_goto rfl ?_
        refine q_iload_n rfl rfl rfl ?_
        refine q_bipush rfl rfl ?_
        refine q_icge rfl rfl (fun c126 => absurd c126 (by decide)) (fun c126 => ?_)
        refine q_aload_n rfl rfl rfl ?_
        refine q_getf rfl rfl (by decide) rfl rfl ?_
        refine q_iload_n rfl rfl rfl ?_
        refine q_aload_n rfl rfl rfl ?_
        refine q_getf rfl rfl (by decide) rfl rfl ?_
        refine q_iload_n rfl rfl rfl ?_
        refine q_iald rfl rfl (by decide) rfl (by decide) (q_tn (z := 0) rfl ?_)
        refine q_iast rfl rfl (by decide) rfl (by decide) ?_
        refine q_icc3 (z := 19) rfl rfl rfl rfl rfl ?_
        refine q_goto rfl ?_
        refine q_iload_n rfl rfl rfl ?_
        refine q_bipush rfl rfl ?_
        refine q_icge rfl rfl (fun c127 => absurd c127 (by decide)) (fun c127 => ?_)
        refine q_aload_n rfl rfl rfl ?_
        refine q_getf rfl rfl (by decide) rfl rfl ?_
        refine q_iload_n rfl rfl rfl ?_
        refine q_aload_n rfl rfl rfl ?_
        refine q_getf rfl rfl (by decide) rfl rfl ?_
        refine q_iload_n rfl rfl rfl ?_
        refine q_iald rfl rfl (by decide) rfl (by decide) (q_tn (z := 0) rfl ?_)
        refine q_iast rfl rfl (by decide) rfl (by decide) ?_
        refine q_icc3 (z := 20) rfl rfl rfl rfl rfl ?_
        refine q_goto rfl ?_
        refine q_iload_n rfl rfl rfl ?_
        refine q_bipush rfl rfl ?_
        refine q_icge rfl rfl (fun c128 => ?_) (fun c128 => absurd (by decide) c128)
        refine q_aload_n rfl rfl rfl ?_
        refine q_iload_n rfl rfl rfl ?_
        refine q_iconst rfl rfl ?_
        refine q_iconst rfl rfl ?_
        refine q_nV3 rfl rfl (Or.inl rfl) rfl rfl rfl (by decide) rfl ⟨rfl, rfl⟩ rfl ?_
        change PQ _ _ _ mm_X12_put 0 [.ref 46, .int 0, .int (-1), .int (-1), pm_un, pm_un, pm_un] [] _ _ 0 0 _
        refine q_aload_n rfl rfl rfl ?_
        refine q_getf rfl rfl (by decide) rfl rfl ?_
        refine q_iload_n rfl rfl rfl ?_
        refine q_iald rfl rfl (by decide) rfl (by decide) (q_tn (z := 0) rfl ?_)
        refine q_ist4 rfl rfl rfl rfl ?_
        refine q_iload rfl rfl rfl ?_
        refine q_sipush rfl rfl ?_
        refine q_icne rfl rfl (fun c129 => absurd c129 (by decide)) (fun c129 => ?_)
        refine q_sipush rfl rfl ?_
        refine q_iload_n rfl rfl rfl ?_
        refine q_imul rfl rfl (q_tn (z := 0) rfl ?_)
        refine q_iload rfl rfl rfl ?_
        refine q_iadd rfl rfl (q_tn (z := 0) rfl ?_)
        refine q_ist5 rfl rfl rfl rfl ?_
        refine q_iconst rfl rfl ?_
        refine q_ist6 rfl rfl rfl rfl ?_
        refine q_iload rfl rfl rfl ?_
        refine q_bipush rfl rfl ?_
        refine q_icge rfl rfl (fun c130 => absurd c130 (by decide)) (fun c130 => ?_)
        refine q_aload_n rfl rfl rfl ?_
        refine q_getf rfl rfl (by decide) rfl rfl ?_
        refine q_bipush rfl rfl ?_
        refine q_iload rfl rfl rfl ?_
        refine q_imul rfl rfl (q_tn (z := 0) rfl ?_)
        refine q_iload rfl rfl rfl ?_
        refine q_iadd rfl rfl (q_tn (z := 0) rfl ?_)
        refine q_aload_n rfl rfl rfl ?_
        refine q_getf rfl rfl (by decide) rfl rfl ?_
        refine q_iload rfl rfl rfl ?_
        refine q_iald rfl rfl (by decide) rfl (by decide) (q_tn (z := 10) rfl ?_)
        refine q_iast rfl rfl (by decide) (FW_55 S hW) (by decide) ?_
        refine q_icc6 (z := 1) rfl rfl rfl rfl rfl ?_
        refine q_goto rfl ?_
        refine q_iload rfl rfl rfl ?_
        refine q_bipush rfl rfl ?_
        refine q_icge rfl rfl (fun c131 => absurd c131 (by decide)) (fun c131 => ?_)
        refine q_aload_n rfl rfl rfl ?_
        refine q_getf rfl rfl (by decide) rfl rfl ?_
        refine q_bipush rfl rfl ?_
        refine q_iload rfl rfl rfl ?_
        refine q_imul rfl rfl (q_tn (z := 0) rfl ?_)
        refine q_iload rfl rfl rfl ?_
        refine q_iadd rfl rfl (q_tn (z := 1) rfl ?_)
        refine q_aload_n rfl rfl rfl ?_
        refine q_getf rfl rfl (by decide) rfl rfl ?_
        refine q_iload rfl rfl rfl ?_
        refine q_iald rfl rfl (by decide) rfl (by decide) (q_tn (z := 0) rfl ?_)
        refine q_iast rfl rfl (by decide) rfl (by decide) ?_
        refine q_icc6 (z := 2) rfl rfl rfl rfl rfl ?_
        refine q_goto rfl ?_
        refine q_iload rfl rfl rfl ?_
        refine q_bipush rfl rfl ?_
        refine q_icge rfl rfl (fun c132 => absurd c132 (by decide)) (fun c132 => ?_)
        refine q_aload_n rfl rfl rfl ?_
        refine q_getf rfl rfl (by decide) rfl rfl ?_
        refine q_bipush rfl rfl ?_
        refine q_iload rfl rfl rfl ?_
        refine q_imul rfl rfl (q_tn (z := 0) rfl ?_)
        refine q_iload rfl rfl rfl ?_
        refine q_iadd rfl rfl (q_tn (z := 2) rfl ?_)
        refine q_aload_n rfl rfl rfl ?_
        refine q_getf rfl rfl (by decide) rfl rfl ?_
        refine q_iload rfl rfl rfl ?_
        refine q_iald rfl rfl (by decide) rfl (by decide) (q_tn (z := 0) rfl ?_)
        refine q_iast rfl rfl (by decide) rfl (by decide) ?_
        refine q_icc6 (z := 3) rfl rfl rfl rfl rfl ?_
        refine q_goto rfl ?_
        refine q_iload rfl rfl rfl ?_
        refine q_bipush rfl rfl ?_
        refine q_icge rfl rfl (fun c133 => absurd c133 (by decide)) (fun c133 => ?_)
        refine q_aload_n rfl rfl rfl ?_
        refine q_getf rfl rfl (by decide) rfl rfl ?_
        refine q_bipush rfl rfl ?_
        refine q_iload rfl rfl rfl ?_
        refine q_imul rfl rfl (q_tn (z := 0) rfl ?_)
        refine q_iload rfl rfl rfl ?_
        refine q_iadd rfl rfl (q_tn (z := 3) rfl ?_)
        refine q_aload_n rfl rfl rfl ?_
        refine q_getf rfl rfl (by decide) rfl rfl ?_
        refine q_iload rfl rfl rfl ?_
        refine q_iald rfl rfl (by decide) rfl (by decide) (q_tn (z := 0) rfl ?_)
        refine q_iast rfl rfl (by decide) rfl (by decide) ?_
        refine q_icc6 (z := 4) rfl rfl rfl rfl rfl ?_
        refine q_goto rfl ?_
        refine q_iload rfl rfl rfl ?_
        refine q_bipush rfl rfl ?_
        refine q_icge rfl rfl (fun c134 => absurd c134 (by decide)) (fun c134 => ?_)
        refine q_aload_n rfl rfl rfl ?_
        refine q_getf rfl rfl (by decide) rfl rfl ?_
        refine q_bipush rfl rfl ?_
        refine q_iload rfl rfl rfl ?_
        refine q_imul rfl rfl (q_tn (z := 0) rfl ?_)
        refine q_iload rfl rfl rfl ?_
        refine q_iadd rfl rfl (q_tn (z := 4) rfl ?_)
        refine q_aload_n rfl rfl rfl ?_
        refine q_getf rfl rfl (by decide) rfl rfl ?_
        refine q_iload rfl rfl rfl ?_
        refine q_iald rfl rfl (by decide) rfl (by decide) (q_tn (z := 0) rfl ?_)
        refine q_iast rfl rfl (by decide) rfl (by decide) ?_
        refine q_icc6 (z := 5) rfl rfl rfl rfl rfl ?_
        refine q_goto rfl ?_
        refine q_iload rfl rfl rfl ?_
        refine q_bipush rfl rfl ?_
        refine q_icge rfl rfl (fun c135 => absurd c135 (by decide)) (fun c135 => ?_)
        refine q_aload_n rfl rfl rfl ?_
        refine q_getf rfl rfl (by decide) rfl rfl ?_
        refine q_bipush rfl rfl ?_
        refine q_iload rfl rfl rfl ?_
        refine q_imul rfl rfl (q_tn (z := 0) rfl ?_)
        refine q_iload rfl rfl rfl ?_
        refine q_iadd rfl rfl (q_tn (z := 5) rfl ?_)
        refine q_aload_n rfl rfl rfl ?_
        refine q_getf rfl rfl (by decide) rfl rfl ?_
        refine q_iload rfl rfl rfl ?_
        refine q_iald rfl rfl (by decide) rfl (by decide) (q_tn (z := 0) rfl ?_)
        refine q_iast rfl rfl (by decide) rfl (by decide) ?_
        refine q_icc6 (z := 6) rfl rfl rfl rfl rfl ?_
        refine q_goto rfl ?_
        refine q_iload rfl rfl rfl ?_
        refine q_bipush rfl rfl ?_
        refine q_icge rfl rfl (fun c136 => absurd c136 (by decide)) (fun c136 => ?_)
        refine q_aload_n rfl rfl rfl ?_
        refine q_getf rfl rfl (by decide) rfl rfl ?_
        refine q_bipush rfl rfl ?_
        refine q_iload rfl rfl rfl ?_
        refine q_imul rfl rfl (q_tn (z := 0) rfl ?_)
        refine q_iload rfl rfl rfl ?_
        refine q_iadd rfl rfl (q_tn (z := 6) rfl ?_)
        refine q_aload_n rfl rfl rfl ?_
        refine q_getf rfl rfl (by decide) rfl rfl ?_
        refine q_iload rfl rfl rfl ?_
        refine q_iald rfl rfl (by decide) rfl (by decide) (q_tn (z := 0) rfl ?_)
        refine q_iast rfl rfl (by decide) rfl (by decide) ?_
        refine q_icc6 (z := 7) rfl rfl rfl rfl rfl ?_
        refine q_goto rfl ?_
        refine q_iload rfl rfl rfl ?_
        refine q_bipush rfl rfl ?_
        refine q_icge rfl rfl (fun c137 => absurd c137 (by decide)) (fun c137 => ?_)
        refine q_aload_n rfl rfl rfl ?_
        refine q_getf rfl rfl (by decide) rfl rfl ?_
        refine q_bipush rfl rfl ?_
        refine q_iload rfl rfl rfl ?_
        refine q_imul rfl rfl (q_tn (z := 0) rfl ?_)
        refine q_iload rfl rfl rfl ?_
        refine q_iadd rfl rfl (q_tn (z := 7) rfl ?_)
        refine q_aload_n rfl rfl rfl ?_
        refine q_getf rfl rfl (by decide) rfl rfl ?_
        refine q_iload rfl rfl rfl ?_
        refine q_iald rfl rfl (by decide) rfl (by decide) (q_tn (z := 0) rfl ?_)
        refine q_iast rfl rfl (by decide) rfl (by decide) ?_
        refine q_icc6 (z := 8) rfl rfl rfl rfl rfl ?_
        refine q_goto rfl ?_
        refine q_iload rfl rfl rfl ?_
        refine q_bipush rfl rfl ?_
        refine q_icge rfl rfl (fun c138 => absurd c138 (by decide)) (fun c138 => ?_)
        refine q_aload_n rfl rfl rfl ?_
        refine q_getf rfl rfl (by decide) rfl rfl ?_
        refine q_bipush rfl rfl ?_
        refine q_iload rfl rfl rfl ?_
        refine q_imul rfl rfl (q_tn (z := 0) rfl ?_)
        refine q_iload rfl rfl rfl ?_
        refine q_iadd rfl rfl (q_tn (z := 8) rfl ?_)
        refine q_aload_n rfl rfl rfl ?_
        refine q_getf rfl rfl (by decide) rfl rfl ?_
        refine q_iload rfl rfl rfl ?_
        refine q_iald rfl rfl (by decide) rfl (by decide) (q_tn (z := 0) rfl ?_)
        refine q_iast rfl rfl (by decide) rfl (by decide) ?_
        refine q_icc6 (z := 9) rfl rfl rfl rfl rfl ?_
        refine q_goto rfl ?_
        refine q_iload rfl rfl rfl ?_
        refine q_bipush rfl rfl ?_
        refine q_icge rfl rfl (fun c139 => absurd c139 (by decide)) (fun c139 => ?_)
        refine q_aload_n rfl rfl rfl ?_
        refine q_getf rfl rfl (by decide) rfl rfl ?_
        refine q_bipush rfl rfl ?_
        refine q_iload rfl rfl rfl ?_
        refine q_imul rfl rfl (q_tn (z := 0) rfl ?_)
        refine q_iload rfl rfl rfl ?_
        refine q_iadd rfl rfl (q_tn (z := 9) rfl ?_)
        refine q_aload_n rfl rfl rfl ?_
        refine q_getf rfl rfl (by decide) rfl rfl ?_
        refine q_iload rfl rfl rfl ?_
        refine q_iald rfl rfl (by decide) rfl (by decide) (q_tn (z := 0) rfl ?_)
        refine q_iast rfl rfl (by decide) rfl (by decide) ?_
        refine q_icc6 (z := 10) rfl rfl rfl rfl rfl ?_
        refine q_goto rfl ?_
        refine q_iload rfl rfl rfl ?_
        refine q_bipush rfl rfl ?_
        refine q_icge rfl rfl (fun c140 => absurd c140 (by decide)) (fun c140 => ?_)
        refine q_aload_n rfl rfl rfl ?_
        refine q_getf rfl rfl (by decide) rfl rfl ?_
        refine q_bipush rfl rfl ?_
        refine q_iload rfl rfl rfl ?_
        refine q_imul rfl rfl (q_tn (z := 0) rfl ?_)
        refine q_iload rfl rfl rfl ?_
        refine q_iadd rfl rfl (q_tn (z := 10) rfl ?_)
        refine q_aload_n rfl rfl rfl ?_
        refine q_getf rfl rfl (by decide) rfl rfl ?_
        refine q_iload rfl rfl rfl ?_
        refine q_iald rfl rfl (by decide) rfl (by decide) (q_tn (z := 0) rfl ?_)
        refine q_iast rfl rfl (by decide) rfl (by decide) ?_
        refine q_icc6 (z := 11) rfl rfl rfl rfl rfl ?_
        refine q_goto rfl ?_
        refine q_iload rfl rfl rfl ?_
        refine q_bipush rfl rfl ?_
        refine q_icge rfl rfl (fun c141 => absurd c141 (by decide)) (fun c141 => ?_)
        refine q_aload_n rfl rfl rfl ?_
        refine q_getf rfl rfl (by decide) rfl rfl ?_
        refine q_bipush rfl rfl ?_
        refine q_iload rfl rfl rfl ?_
        refine q_imul rfl rfl (q_tn (z := 0) rfl ?_)
        refine q_iload rfl rfl rfl ?_
        refine q_iadd rfl rfl (q_tn (z := 11) rfl ?_)
        refine q_aload_n rfl rfl rfl ?_
        refine q_getf rfl rfl (by decide) rfl rfl ?_
        refine q_iload rfl rfl rfl ?_
        refine q_iald rfl rfl (by decide) rfl (by decide) (q_tn (z := 0) rfl ?_)
        refine q_iast rfl rfl (by decide) rfl (by decide) ?_
        refine q_icc6 (z := 12) rfl rfl rfl rfl rfl ?_
        refine q_goto rfl ?_
        refine q_iload rfl rfl rfl ?_
        refine q_bipush rfl rfl ?_
        refine q_icge rfl rfl (fun c142 => absurd c142 (by decide)) (fun c142 => ?_)
        refine q_aload_n rfl rfl rfl ?_
        refine q_getf rfl rfl (by decide) rfl rfl ?_
        refine q_bipush rfl rfl ?_
        refine q_iload rfl rfl rfl ?_
        refine q_imul rfl rfl (q_tn (z := 0) rfl ?_)
        refine q_iload rfl rfl rfl ?_
        refine q_iadd rfl rfl (q_tn (z := 12) rfl ?_)
        refine q_aload_n rfl rfl rfl ?_
        refine q_getf rfl rfl (by decide) rfl rfl ?_
        refine q_iload rfl rfl rfl ?_
        refine q_iald rfl rfl (by decide) rfl (by decide) (q_tn (z := 0) rfl ?_)
        refine q_iast rfl rfl (by decide) rfl (by decide) ?_
        refine q_icc6 (z := 13) rfl rfl rfl rfl rfl ?_
        refine q_goto rfl ?_
        refine q_iload rfl rfl rfl ?_
        refine q_bipush rfl rfl ?_
        refine q_icge rfl rfl (fun c143 => absurd c143 (by decide)) (fun c143 => ?_)
        refine q_aload_n rfl rfl rfl ?_
        refine q_getf rfl rfl (by decide) rfl rfl ?_
        refine q_bipush rfl rfl ?_
        refine q_iload rfl rfl rfl ?_
        refine q_imul rfl rfl (q_tn (z := 0) rfl ?_)
        refine q_iload rfl rfl rfl ?_
        refine q_iadd rfl rfl (q_tn (z := 13) rfl ?_)
        refine q_aload_n rfl rfl rfl ?_
        refine q_getf rfl rfl (by decide) rfl rfl ?_
        refine q_iload rfl rfl rfl ?_
        refine q_iald rfl rfl (by decide) rfl (by decide) (q_tn (z := 0) rfl ?_)
        refine q_iast rfl rfl (by decide) rfl (by decide) ?_
        refine q_icc6 (z := 14) rfl rfl rfl rfl rfl ?_
        refine q_goto rfl ?_
        refine q_iload rfl rfl rfl ?_
        refine q_bipush rfl rfl ?_
        refine q_icge rfl rfl (fun c144 => absurd c144 (by decide)) (fun c144 => ?_)
        refine q_aload_n rfl rfl rfl ?_
        refine q_getf rfl rfl (by decide) rfl rfl ?_
        refine q_bipush rfl rfl ?_
        refine q_iload rfl rfl rfl ?_
        refine q_imul rfl rfl (q_tn (z := 0) rfl ?_)
        refine q_iload rfl rfl rfl ?_
        refine q_iadd rfl rfl (q_tn (z := 14) rfl ?_)
        refine q_aload_n rfl rfl rfl ?_
        refine q_getf rfl rfl (by decide) rfl rfl ?_
        refine q_iload rfl rfl rfl ?_
        refine q_iald rfl rfl (by decide) rfl (by decide) (q_tn (z := 0) rfl ?_)
        refine q_iast rfl rfl (by decide) rfl (by decide) ?_
        refine q_icc6 (z := 15) rfl rfl rfl rfl rfl ?_
        refine q_goto rfl ?_
        refine q_iload rfl rfl rfl ?_
        refine q_bipush rfl rfl ?_
        refine q_icge rfl rfl (fun c145 => absurd c145 (by decide)) (fun c145 => ?_)
        refine q_aload_n rfl rfl rfl ?_
        refine q_getf rfl rfl (by decide) rfl rfl ?_
        refine q_bipush rfl rfl ?_
        refine q_iload rfl rfl rfl ?_
        refine q_imul rfl rfl (q_tn (z := 0) rfl ?_)
        refine q_iload rfl rfl rfl ?_
        refine q_iadd rfl rfl (q_tn (z := 15) rfl ?_)
        refine q_aload_n rfl rfl rfl ?_
        refine q_getf rfl rfl (by decide) rfl rfl ?_
        refine q_iload rfl rfl rfl ?_
        refine q_iald rfl rfl (by decide) rfl (by decide) (q_tn (z := 0) rfl ?_)
        refine q_iast rfl rfl (by decide) rfl (by decide) ?_
        refine q_icc6 (z := 16) rfl rfl rfl rfl rfl ?_
        refine q_goto rfl ?_
        refine q_iload rfl rfl rfl ?_
        refine q_bipush rfl rfl ?_
        refine q_icge rfl rfl (fun c146 => absurd c146 (by decide)) (fun c146 => ?_)
        refine q_aload_n rfl rfl rfl ?_
        refine q_getf rfl rfl (by decide) rfl rfl ?_
        refine q_bipush rfl rfl ?_
        refine q_iload rfl rfl rfl ?_
        refine q_imul rfl rfl (q_tn (z := 0) rfl ?_)
        refine q_iload rfl rfl rfl ?_
        refine q_iadd rfl rfl (q_tn (z := 16) rfl ?_)
        refine q_aload_n rfl rfl rfl ?_
        refine q_getf rfl rfl (by decide) rfl rfl ?_
        refine q_iload rfl rfl rfl ?_
        refine q_iald rfl rfl (by decide) rfl (by decide) (q_tn (z := 0) rfl ?_)
        refine q_iast rfl rfl (by decide) rfl (by decide) ?_
        refine q_icc6 (z := 17) rfl rfl rfl rfl rfl ?_
        refine q_goto rfl ?_
        refine q_iload rfl rfl rfl ?_
        refine q_bipush rfl rfl ?_
        refine q_icge rfl rfl (fun c147 => absurd c147 (by decide)) (fun c147 => ?_)
        refine q_aload_n rfl rfl rfl ?_
        refine q_getf rfl rfl (by decide) rfl rfl ?_
        refine q_bipush rfl rfl ?_
        refine q_iload rfl rfl rfl ?_
        refine q_imul rfl rfl (q_tn (z := 0) rfl ?_)
        refine q_iload rfl rfl rfl ?_
        refine q_iadd rfl rfl (q_tn (z := 17) rfl ?_)
        refine q_aload_n rfl rfl rfl ?_
        refine q_getf rfl rfl (by decide) rfl rfl ?_
        refine q_iload rfl rfl rfl ?_
        refine q_iald rfl rfl (by decide) rfl (by decide) (q_tn (z := 0) rfl ?_)
        refine q_iast rfl rfl (by decide) rfl (by decide) ?_
        refine q_icc6 (z := 18) rfl rfl rfl rfl rfl ?_
        refine q_goto rfl ?_
        refine q_iload rfl rfl rfl ?_
        refine q_bipush rfl rfl ?_
        refine q_icge rfl rfl (fun c148 => absurd c148 (by decide)) (fun c148 => ?_)
        refine q_aload_n rfl rfl rfl ?_
        refine q_getf rfl rfl (by decide) rfl rfl ?_
        refine q_bipush rfl rfl ?_
        refine q_iload rfl rfl rfl ?_
        refine q_imul rfl rfl (q_tn (z := 0) rfl ?_)
        refine q_iload rfl rfl rfl ?_
        refine q_iadd rfl rfl (q_tn (z := 18) rfl ?_)
        refine q_aload_n rfl rfl rfl ?_
        refine q_getf rfl rfl (by decide) rfl rfl ?_
        refine q_iload rfl rfl rfl ?_
        refine q_iald rfl rfl (by decide) rfl (by decide) (q_tn (z := 0) rfl ?_)
        refine q_iast rfl rfl (by decide) rfl (by decide) ?_
        refine q_icc6 (z := 19) rfl rfl rfl rfl rfl ?_
        refine q_goto rfl ?_
        refine q_iload rfl rfl rfl ?_
        refine q_bipush rfl rfl ?_
        refine q_icge rfl rfl (fun c149 => absurd c149 (by decide)) (fun c149 => ?_)
        refine q_aload_n rfl rfl rfl ?_
        refine q_getf rfl rfl (by decide) rfl rfl ?_
        refine q_bipush rfl rfl ?_
        refine q_iload rfl rfl rfl ?_
        refine q_imul rfl rfl (q_tn (z := 0) rfl ?_)
        refine q_iload rfl rfl rfl ?_
        refine q_iadd rfl rfl (q_tn (z := 19) rfl ?_)
        refine q_aload_n rfl rfl rfl ?_
        refine q_getf rfl rfl (by decide) rfl rfl ?_
        refine q_iload rfl rfl rfl ?_
        refine q_iald rfl rfl (by decide) rfl (by decide) (q_tn (z := 0) rfl ?_)
        refine q_iast rfl rfl (by decide) rfl (by decide) ?_
        refine q_icc6 (z := 20) rfl rfl rfl rfl rfl ?_
        refine q_goto rfl ?_
        refine q_iload rfl rfl rfl ?_
        refine q_bipush rfl rfl ?_
        refine q_icge rfl rfl (fun c150 => ?_) (fun c150 => absurd (by decide) c150)
        refine q_aload_n rfl rfl rfl ?_
        refine q_getf rfl rfl (by decide) rfl rfl ?_
        refine q_iload rfl rfl rfl ?_
        refine q_iload_n rfl rfl rfl ?_
        refine q_iast rfl rfl (by decide) (FW_56 S hW) (by decide) ?_
        refine q_aload_n rfl rfl rfl ?_
        refine q_getf rfl rfl (by decide) rfl rfl ?_
        refine q_iload rfl rfl rfl ?_
        refine q_iload_n rfl rfl rfl ?_
        refine q_iast rfl rfl (by decide) (FW_57 S hW) (by decide) ?_
        refine q_aload_n rfl rfl rfl ?_
        refine q_iload_n rfl rfl rfl ?_
        refine q_nV1 rfl rfl (Or.inl rfl) rfl rfl rfl (by decide) rfl ⟨rfl, rfl⟩ rfl ?_
        change PQ _ _ _ mm_X12_rest 0 [.ref 46, .int 0, pm_un, pm_un] [] _ _ 0 0 _
        refine q_bipush rfl rfl ?_
        refine q_ist2n rfl rfl rfl rfl ?_
        refine q_iconst rfl rfl ?_
        refine q_ist3n rfl rfl rfl rfl ?_
        refine q_iload_n rfl rfl rfl ?_
        refine q_bipush rfl rfl ?_
        refine q_icge rfl rfl (fun c151 => absurd c151 (by decide)) (fun c151 => ?_)
        refine q_bipush rfl rfl ?_
        refine q_iload_n rfl rfl rfl ?_
        refine q_imul rfl rfl (q_tn (z := 527) rfl ?_)
        refine q_aload_n rfl rfl rfl ?_
        refine q_getf rfl rfl (by decide) rfl rfl ?_
        refine q_iload_n rfl rfl rfl ?_
        refine q_iald rfl rfl (by decide) rfl (by decide) (q_tn (z := 10) rfl ?_)
        refine q_iadd rfl rfl (q_tn (z := 537) rfl ?_)
        refine q_ist2n rfl rfl rfl rfl ?_
        refine q_icc3 (z := 1) rfl rfl rfl rfl rfl ?_
        refine q_goto rfl ?_
        refine q_iload_n rfl rfl rfl ?_
        refine q_bipush rfl rfl ?_
        refine q_icge rfl rfl (fun c152 => absurd c152 (by decide)) (fun c152 => ?_)
        refine q_bipush rfl rfl ?_
        refine q_iload_n rfl rfl rfl ?_
        refine q_imul rfl rfl (q_tn (z := 16647) rfl ?_)
        refine q_aload_n rfl rfl rfl ?_
        refine q_getf rfl rfl (by decide) rfl rfl ?_
        refine q_iload_n rfl rfl rfl ?_
        refine q_iald rfl rfl (by decide) rfl (by decide) (q_tn (z := 0) rfl ?_)
        refine q_iadd rfl rfl (q_tn (z := 16647) rfl ?_)
        refine q_ist2n rfl rfl rfl rfl ?_
        refine q_icc3 (z := 2) rfl rfl rfl rfl rfl ?_
        refine q_goto rfl ?_
        refine q_iload_n rfl rfl rfl ?_
        refine q_bipush rfl rfl ?_
        refine q_icge rfl rfl (fun c153 => absurd c153 (by decide)) (fun c153 => ?_)
        refine q_bipush rfl rfl ?_
        refine q_iload_n rfl rfl rfl ?_
        refine q_imul rfl rfl (q_tn (z := 516057) rfl ?_)
        refine q_aload_n rfl rfl rfl ?_
        refine q_getf rfl rfl (by decide) rfl rfl ?_
        refine q_iload_n rfl rfl rfl ?_
        refine q_iald rfl rfl (by decide) rfl (by decide) (q_tn (z := 0) rfl ?_)
        refine q_iadd rfl rfl (q_tn (z := 516057) rfl ?_)
        refine q_ist2n rfl rfl rfl rfl ?_
        refine q_icc3 (z := 3) rfl rfl rfl rfl rfl ?_
        refine q_goto rfl ?_
        refine q_iload_n rfl rfl rfl ?_
        refine q_bipush rfl rfl ?_
        refine q_icge rfl rfl (fun c154 => absurd c154 (by decide)) (fun c154 => ?_)
        refine q_bipush rfl rfl ?_
        refine q_iload_n rfl rfl rfl ?_
        refine q_imul rfl rfl (q_tn (z := 15997767) rfl ?_)
        refine q_aload_n rfl rfl rfl ?_
        refine q_getf rfl rfl (by decide) rfl rfl ?_
        refine q_iload_n rfl rfl rfl ?_
        refine q_iald rfl rfl (by decide) rfl (by decide) (q_tn (z := 0) rfl ?_)
        refine q_iadd rfl rfl (q_tn (z := 15997767) rfl ?_)
        refine q_ist2n rfl rfl rfl rfl ?_
        refine q_icc3 (z := 4) rfl rfl rfl rfl rfl ?_
        refine q_goto rfl ?_
        refine q_iload_n rfl rfl rfl ?_
        refine q_bipush rfl rfl ?_
        refine q_icge rfl rfl (fun c155 => absurd c155 (by decide)) (fun c155 => ?_)
        refine q_bipush rfl rfl ?_
        refine q_iload_n rfl rfl rfl ?_
        refine q_imul rfl rfl (q_tn (z := 495930777) rfl ?_)
        refine q_aload_n rfl rfl rfl ?_
        refine q_getf rfl rfl (by decide) rfl rfl ?_
        refine q_iload_n rfl rfl rfl ?_
        refine q_iald rfl rfl (by decide) rfl (by decide) (q_tn (z := 0) rfl ?_)
        refine q_iadd rfl rfl (q_tn (z := 495930777) rfl ?_)
        refine q_ist2n rfl rfl rfl rfl ?_
        refine q_icc3 (z := 5) rfl rfl rfl rfl rfl ?_
        refine q_goto rfl ?_
        refine q_iload_n rfl rfl rfl ?_
        refine q_bipush rfl rfl ?_
        refine q_icge rfl rfl (fun c156 => absurd c156 (by decide)) (fun c156 => ?_)
        refine q_bipush rfl rfl ?_
        refine q_iload_n rfl rfl rfl ?_
        refine q_imul rfl rfl (q_tn (z := (-1806015097)) rfl ?_)
        refine q_aload_n rfl rfl rfl ?_
        refine q_getf rfl rfl (by decide) rfl rfl ?_
        refine q_iload_n rfl rfl rfl ?_
        refine q_iald rfl rfl (by decide) rfl (by decide) (q_tn (z := 0) rfl ?_)
        refine q_iadd rfl rfl (q_tn (z := (-1806015097)) rfl ?_)
        refine q_ist2n rfl rfl rfl rfl ?_
        refine q_icc3 (z := 6) rfl rfl rfl rfl rfl ?_
        refine q_goto rfl ?_
        refine q_iload_n rfl rfl rfl ?_
        refine q_bipush rfl rfl ?_
        refine q_icge rfl rfl (fun c157 => absurd c157 (by decide)) (fun c157 => ?_)
        refine q_bipush rfl rfl ?_
        refine q_iload_n rfl rfl rfl ?_
        refine q_imul rfl rfl (q_tn (z := (-151893159)) rfl ?_)
        refine q_aload_n rfl rfl rfl ?_
        refine q_getf rfl rfl (by decide) rfl rfl ?_
        refine q_iload_n rfl rfl rfl ?_
        refine q_iald rfl rfl (by decide) rfl (by decide) (q_tn (z := 0) rfl ?_)
        refine q_iadd rfl rfl (q_tn (z := (-151893159)) rfl ?_)
        refine q_ist2n rfl rfl rfl rfl ?_
        refine q_icc3 (z := 7) rfl rfl rfl rfl rfl ?_
        refine q_goto rfl ?_
        refine q_iload_n rfl rfl rfl ?_
        refine q_bipush rfl rfl ?_
        refine q_icge rfl rfl (fun c158 => absurd c158 (by decide)) (fun c158 => ?_)
        refine q_bipush rfl rfl ?_
        refine q_iload_n rfl rfl rfl ?_
        refine q_imul rfl rfl (q_tn (z := (-413720633)) rfl ?_)
        refine q_aload_n rfl rfl rfl ?_
        refine q_getf rfl rfl (by decide) rfl rfl ?_
        refine q_iload_n rfl rfl rfl ?_
        refine q_iald rfl rfl (by decide) rfl (by decide) (q_tn (z := 0) rfl ?_)
        refine q_iadd rfl rfl (q_tn (z := (-413720633)) rfl ?_)
        refine q_ist2n rfl rfl rfl rfl ?_
        refine q_icc3 (z := 8) rfl rfl rfl rfl rfl ?_
        refine q_goto rfl ?_
        refine q_iload_n rfl rfl rfl ?_
        refine q_bipush rfl rfl ?_
        refine q_icge rfl rfl (fun c159 => absurd c159 (by decide)) (fun c159 => ?_)
        refine q_bipush rfl rfl ?_
        refine q_iload_n rfl rfl rfl ?_
        refine q_imul rfl rfl (q_tn (z := 59562265) rfl ?_)
        refine q_aload_n rfl rfl rfl ?_
        refine q_getf rfl rfl (by decide) rfl rfl ?_
        refine q_iload_n rfl rfl rfl ?_
        refine q_iald rfl rfl (by decide) rfl (by decide) (q_tn (z := 0) rfl ?_)
        refine q_iadd rfl rfl (q_tn (z := 59562265) rfl ?_)
        refine q_ist2n rfl rfl rfl rfl ?_
        refine q_icc3 (z := 9) rfl rfl rfl rfl rfl ?_
        refine q_goto rfl ?_
        refine q_iload_n rfl rfl rfl ?_
        refine q_bipush rfl rfl ?_
        refine q_icge rfl rfl (fun c160 => absurd c160 (by decide)) (fun c160 => ?_)
        refine q_bipush rfl rfl ?_
        refine q_iload_n rfl rfl rfl ?_
        refine q_imul rfl rfl (q_tn (z := 1846430215) rfl ?_)
        refine q_aload_n rfl rfl rfl ?_
        refine q_getf rfl rfl (by decide) rfl rfl ?_
        refine q_iload_n rfl rfl rfl ?_
        refine q_iald rfl rfl (by decide) rfl (by decide) (q_tn (z := 0) rfl ?_)
        refine q_iadd rfl rfl (q_tn (z := 1846430215) rfl ?_)
        refine q_ist2n rfl rfl rfl rfl ?_
        refine q_icc3 (z := 10) rfl rfl rfl rfl rfl ?_
        refine q_goto rfl ?_
        refine q_iload_n rfl rfl rfl ?_
        refine q_bipush rfl rfl ?_
        refine q_icge rfl rfl (fun c161 => absurd c161 (by decide)) (fun c161 => ?_)
        refine q_bipush rfl rfl ?_
        refine q_iload_n rfl rfl rfl ?_
        refine q_imul rfl rfl (q_tn (z := 1404761817) rfl ?_)
        refine q_aload_n rfl rfl rfl ?_
        refine q_getf rfl rfl (by decide) rfl rfl ?_
        refine q_iload_n rfl rfl rfl ?_
        refine q_iald rfl rfl (by decide) rfl (by decide) (q_tn (z := 0) rfl ?_)
        refine q_iadd rfl rfl (q_tn (z := 1404761817) rfl ?_)
        refine q_ist2n rfl rfl rfl rfl ?_
        refine q_icc3 (z := 11) rfl rfl rfl rfl rfl ?_
        refine q_goto rfl ?_
        refine q_iload_n rfl rfl rfl ?_
        refine q_bipush rfl rfl ?_
        refine q_icge rfl rfl (fun c162 => absurd c162 (by decide)) (fun c162 => ?_)
        refine q_bipush rfl rfl ?_
        refine q_iload_n rfl rfl rfl ?_
        refine q_imul rfl rfl (q_tn (z := 597943367) rfl ?_)
        refine q_aload_n rfl rfl rfl ?_
        refine q_getf rfl rfl (by decide) rfl rfl ?_
        as_aux_lemma =>
          refine q_iload_n rfl rfl rfl ?_
          refine q_iald rfl rfl (by decide) rfl (by decide) (q_tn (z := 0) rfl ?_)
          refine q_iadd rfl rfl (q_tn (z := 597943367) rfl ?_)
          refine q_ist2n rfl rfl rfl rfl ?_
          refine q_icc3 (z := 12) rfl rfl rfl rfl rfl ?_
          refine q_goto rfl ?_
          refine q_iload_n rfl rfl rfl ?_
          refine q_bipush rfl rfl ?_
          refine q_icge rfl rfl (fun c163 => absurd c163 (by decide)) (fun c163 => ?_)
          refine q_bipush rfl rfl ?_
          refine q_iload_n rfl rfl rfl ?_
          refine q_imul rfl rfl (q_tn (z := 1356375193) rfl ?_)
          refine q_aload_n rfl rfl rfl ?_
          refine q_getf rfl rfl (by decide) rfl rfl ?_
          refine q_iload_n rfl rfl rfl ?_
          refine q_iald rfl rfl (by decide) rfl (by decide) (q_tn (z := 0) rfl ?_)
          refine q_iadd rfl rfl (q_tn (z := 1356375193) rfl ?_)
          refine q_ist2n rfl rfl rfl rfl ?_
          refine q_icc3 (z := 13) rfl rfl rfl rfl rfl ?_
          refine q_goto rfl ?_
          refine q_iload_n rfl rfl rfl ?_
          refine q_bipush rfl rfl ?_
          refine q_icge rfl rfl (fun c164 => absurd c164 (by decide)) (fun c164 => ?_)
          refine q_bipush rfl rfl ?_
          refine q_iload_n rfl rfl rfl ?_
          refine q_imul rfl rfl (q_tn (z := (-902041977)) rfl ?_)
          refine q_aload_n rfl rfl rfl ?_
          refine q_getf rfl rfl (by decide) rfl rfl ?_
          refine q_iload_n rfl rfl rfl ?_
          refine q_iald rfl rfl (by decide) rfl (by decide) (q_tn (z := 0) rfl ?_)
          refine q_iadd rfl rfl (q_tn (z := (-902041977)) rfl ?_)
          refine q_ist2n rfl rfl rfl rfl ?_
          refine q_icc3 (z := 14) rfl rfl rfl rfl rfl ?_
          refine q_goto rfl ?_
          refine q_iload_n rfl rfl rfl ?_
          refine q_bipush rfl rfl ?_
          refine q_icge rfl rfl (fun c165 => absurd c165 (by decide)) (fun c165 => ?_)
          refine q_bipush rfl rfl ?_
          refine q_iload_n rfl rfl rfl ?_
          refine q_imul rfl rfl (q_tn (z := 2101469785) rfl ?_)
          refine q_aload_n rfl rfl rfl ?_
          refine q_getf rfl rfl (by decide) rfl rfl ?_
          refine q_iload_n rfl rfl rfl ?_
          refine q_iald rfl rfl (by decide) rfl (by decide) (q_tn (z := 0) rfl ?_)
          refine q_iadd rfl rfl (q_tn (z := 2101469785) rfl ?_)
          refine q_ist2n rfl rfl rfl rfl ?_
          refine q_icc3 (z := 15) rfl rfl rfl rfl rfl ?_
          refine q_goto rfl ?_
          refine q_iload_n rfl rfl rfl ?_
          refine q_bipush rfl rfl ?_
          refine q_icge rfl rfl (fun c166 => absurd c166 (by decide)) (fun c166 => ?_)
          refine q_bipush rfl rfl ?_
          refine q_iload_n rfl rfl rfl ?_
          refine q_imul rfl rfl (q_tn (z := 721053895) rfl ?_)
          refine q_aload_n rfl rfl rfl ?_
          refine q_getf rfl rfl (by decide) rfl rfl ?_
          refine q_iload_n rfl rfl rfl ?_
          refine q_iald rfl rfl (by decide) rfl (by decide) (q_tn (z := 0) rfl ?_)
          refine q_iadd rfl rfl (q_tn (z := 721053895) rfl ?_)
          refine q_ist2n rfl rfl rfl rfl ?_
          refine q_icc3 (z := 16) rfl rfl rfl rfl rfl ?_
          refine q_goto rfl ?_
          refine q_iload_n rfl rfl rfl ?_
          refine q_bipush rfl rfl ?_
          refine q_icge rfl rfl (fun c167 => absurd c167 (by decide)) (fun c167 => ?_)
          refine q_bipush rfl rfl ?_
          refine q_iload_n rfl rfl rfl ?_
          refine q_imul rfl rfl (q_tn (z := 877834265) rfl ?_)
          refine q_aload_n rfl rfl rfl ?_
          refine q_getf rfl rfl (by decide) rfl rfl ?_
          refine q_iload_n rfl rfl rfl ?_
          refine q_iald rfl rfl (by decide) rfl (by decide) (q_tn (z := 0) rfl ?_)
          refine q_iadd rfl rfl (q_tn (z := 877834265) rfl ?_)
          refine q_ist2n rfl rfl rfl rfl ?_
          refine q_icc3 (z := 17) rfl rfl rfl rfl rfl ?_
          refine q_goto rfl ?_
          refine q_iload_n rfl rfl rfl ?_
          refine q_bipush rfl rfl ?_
          refine q_icge rfl rfl (fun c168 => absurd c168 (by decide)) (fun c168 => ?_)
          refine q_bipush rfl rfl ?_
          refine q_iload_n rfl rfl rfl ?_
          refine q_imul rfl rfl (q_tn (z := 1443058439) rfl ?_)
          refine q_aload_n rfl rfl rfl ?_
          refine q_getf rfl rfl (by decide) rfl rfl ?_
          refine q_iload_n rfl rfl rfl ?_
          refine q_iald rfl rfl (by decide) rfl (by decide) (q_tn (z := 0) rfl ?_)
          refine q_iadd rfl rfl (q_tn (z := 1443058439) rfl ?_)
          refine q_ist2n rfl rfl rfl rfl ?_
          refine q_icc3 (z := 18) rfl rfl rfl rfl rfl ?_
          refine q_goto rfl ?_
          refine q_iload_n rfl rfl rfl ?_
          refine q_bipush rfl rfl ?_
          refine q_icge rfl rfl (fun c169 => absurd c169 (by decide)) (fun c169 => ?_)
          refine q_bipush rfl rfl ?_
          refine q_iload_n rfl rfl rfl ?_
          refine q_imul rfl rfl (q_tn (z := 1785138649) rfl ?_)
          refine q_aload_n rfl rfl rfl ?_
          refine q_getf rfl rfl (by decide) rfl rfl ?_
          refine q_iload_n rfl rfl rfl ?_
          refine q_iald rfl rfl (by decide) rfl (by decide) (q_tn (z := 0) rfl ?_)
          refine q_iadd rfl rfl (q_tn (z := 1785138649) rfl ?_)
          refine q_ist2n rfl rfl rfl rfl ?_
          refine q_icc3 (z := 19) rfl rfl rfl rfl rfl ?_
          refine q_goto rfl ?_
          refine q_iload_n rfl rfl rfl ?_
          refine q_bipush rfl rfl ?_
          refine q_icge rfl rfl (fun c170 => absurd c170 (by decide)) (fun c170 => ?_)
          refine q_bipush rfl rfl ?_
          refine q_iload_n rfl rfl rfl ?_
          refine q_imul rfl rfl (q_tn (z := (-495276729)) rfl ?_)
          refine q_aload_n rfl rfl rfl ?_
          refine q_getf rfl rfl (by decide) rfl rfl ?_
          refine q_iload_n rfl rfl rfl ?_
          refine q_iald rfl rfl (by decide) rfl (by decide) (q_tn (z := 0) rfl ?_)
          refine q_iadd rfl rfl (q_tn (z := (-495276729)) rfl ?_)
          refine q_ist2n rfl rfl rfl rfl ?_
          refine q_icc3 (z := 20) rfl rfl rfl rfl rfl ?_
          refine q_goto rfl ?_
          refine q_iload_n rfl rfl rfl ?_
          refine q_bipush rfl rfl ?_
          refine q_icge rfl rfl (fun c171 => ?_) (fun c171 => absurd (by decide) c171)
          refine q_sipush rfl rfl ?_
          refine q_iload_n rfl rfl rfl ?_
          refine q_imul rfl rfl (q_tn (z := 0) rfl ?_)
          refine q_iload_n rfl rfl rfl ?_
          refine q_iload_n rfl rfl rfl ?_
          refine q_bipush rfl rfl ?_
          refine q_iushr rfl rfl (q_tn (z := 463829) rfl ?_)
          refine q_ixor rfl rfl (q_tn (z := (-495075694)) rfl ?_)
          refine q_sipush rfl rfl ?_
          refine q_irem rfl rfl (by decide) (q_tn (z := (-366)) rfl ?_)
          refine q_iload_n rfl rfl rfl ?_
          refine q_iload_n rfl rfl rfl ?_
          refine q_bipush rfl rfl ?_
          refine q_iushr rfl rfl (q_tn (z := 463829) rfl ?_)
          refine q_ixor rfl rfl (q_tn (z := (-495075694)) rfl ?_)
          refine q_sipush rfl rfl ?_
          refine q_irem rfl rfl (by decide) (q_tn (z := (-366)) rfl ?_)
          refine q_ifge rfl rfl (fun c172 => absurd c172 (by decide)) (fun c172 => ?_)
          refine q_iconst rfl rfl ?_
          refine q_goto rfl ?_
          refine q_imul rfl rfl (q_tn (z := 366) rfl ?_)
          refine q_iadd rfl rfl (q_tn (z := 366) rfl ?_)
          refine q_iret rfl rfl trivial ?_
          refine ⟨_, rfl, ?_⟩
          refine q_ist6 rfl rfl rfl rfl ?_
          refine q_aload_n rfl rfl rfl ?_
          refine q_getf rfl rfl (by decide) rfl rfl ?_
          refine q_iload rfl rfl rfl ?_
          refine q_aload_n rfl rfl rfl ?_
          refine q_getf rfl rfl (by decide) rfl rfl ?_
          refine q_iload rfl rfl rfl ?_
          refine q_iald rfl rfl (by decide) rfl (by decide) (q_tn (z := (-1)) rfl ?_)
          refine q_iast rfl rfl (by decide) (FW_58 S hW) (by decide) ?_
          refine q_aload_n rfl rfl rfl ?_
          refine q_getf rfl rfl (by decide) rfl rfl ?_
          refine q_iload rfl rfl rfl ?_
          refine q_iload rfl rfl rfl ?_
          refine q_iast rfl rfl (by decide) rfl (by decide) ?_
          refine q_aload_n rfl rfl rfl ?_
          refine q_getf rfl rfl (by decide) rfl rfl ?_
          refine q_iload_n rfl rfl rfl ?_
          refine q_dup2 rfl rfl ?_
          refine q_iald rfl rfl (by decide) rfl (by decide) (q_tn (z := 0) rfl ?_)
          refine q_iconst rfl rfl ?_
          refine q_iadd rfl rfl (q_tn (z := 1) rfl ?_)
          refine q_iast rfl rfl (by decide) rfl (by decide) ?_
          refine q_iload rfl rfl rfl ?_
          refine q_iret rfl rfl trivial ?_
          refine ⟨_, rfl, ?_⟩
          refine q_ist3n rfl rfl rfl rfl ?_
          refine q_iconst rfl rfl ?_
          refine q_ist4 rfl rfl rfl rfl ?_
          refine q_iload rfl rfl rfl ?_
          refine q_aload_n rfl rfl rfl ?_
          refine q_getf rfl rfl (by decide) rfl rfl ?_
          refine q_iload_n rfl rfl rfl ?_
          refine q_iald rfl rfl (by decide) rfl (by decide) (q_tn (z := 1) rfl ?_)
          refine q_icge rfl rfl (fun c173 => absurd c173 (by decide)) (fun c173 => ?_)
          refine q_iconst rfl rfl ?_
          refine q_ist5 rfl rfl rfl rfl ?_
          refine q_iload rfl rfl rfl ?_
          refine q_iconst rfl rfl ?_
          refine q_icge rfl rfl (fun c174 => absurd c174 (by decide)) (fun c174 => ?_)
          refine q_iconst rfl rfl ?_
          refine q_sipush rfl rfl ?_
          refine q_iload_n rfl rfl rfl ?_
          refine q_imul rfl rfl (q_tn (z := 0) rfl ?_)
          refine q_iload rfl rfl rfl ?_
          refine q_iadd rfl rfl (q_tn (z := 0) rfl ?_)
          refine q_imul rfl rfl (q_tn (z := 0) rfl ?_)
          refine q_iload rfl rfl rfl ?_
          refine q_iadd rfl rfl (q_tn (z := 0) rfl ?_)
          refine q_ist6 rfl rfl rfl rfl ?_
          refine q_aload_n rfl rfl rfl ?_
          refine q_getf rfl rfl (by decide) rfl rfl ?_
          refine q_iload rfl rfl rfl ?_
          refine q_iconst rfl rfl ?_
          refine q_iast rfl rfl (by decide) (FW_59 S hW) (by decide) ?_
          refine q_aload_n rfl rfl rfl ?_
          refine q_iload_n rfl rfl rfl ?_
          refine q_iload rfl rfl rfl ?_
          refine q_cV2v rfl rfl (Or.inl rfl) rfl rfl rfl (by decide) rfl ⟨rfl, rfl⟩ rfl (fun K' hK' => l_sa (R := 0) (by decide) rfl (by decide) rfl rfl rfl rfl rfl hK') ?_
          refine q_iload rfl rfl rfl ?_
          refine q_aload_n rfl rfl rfl ?_
          refine q_getf rfl rfl (by decide) rfl rfl ?_
          refine q_icge rfl rfl (fun c175 => absurd c175 (by decide)) (fun c175 => ?_)
          refine q_aload_n rfl rfl rfl ?_
          refine q_iload rfl rfl rfl ?_
          refine q_iload_n rfl rfl rfl ?_
          refine q_nV2 rfl rfl (Or.inl rfl) rfl rfl rfl (by decide) rfl ⟨rfl, rfl⟩ rfl ?_
          change PQ _ _ _ mm_X12_maySteps 0 [.ref 46, .int 0, .int 0, pm_un, pm_un, pm_un] [] _ _ 0 0 _
          refine q_aload_n rfl rfl rfl ?_
          refine q_iload_n rfl rfl rfl ?_
          refine q_iload_n rfl rfl rfl ?_
          refine q_nV2 rfl rfl (Or.inl rfl) rfl rfl rfl (by decide) rfl ⟨rfl, rfl⟩ rfl ?_
          change PQ _ _ _ mm_X12_canStep 0 [.ref 46, .int 0, .int 0, pm_un] [] _ _ 0 0 _
          refine q_aload_n rfl rfl rfl ?_
          refine q_iload_n rfl rfl rfl ?_
          refine q_nV1 rfl rfl (Or.inl rfl) rfl rfl rfl (by decide) rfl ⟨rfl, rfl⟩ rfl ?_
          change PQ _ _ _ mm_X12_isOver 0 [.ref 46, .int 0] [] _ _ 0 0 _
          refine q_aload_n rfl rfl rfl ?_
          refine q_getf rfl rfl (by decide) rfl rfl ?_
          refine q_iconst rfl rfl ?_
          refine q_iload_n rfl rfl rfl ?_
          refine q_imul rfl rfl (q_tn (z := 0) rfl ?_)
          refine q_iald rfl rfl (by decide) rfl (by decide) (q_tn (z := 10) rfl ?_)
          refine q_bipush rfl rfl ?_
          refine q_iclt rfl rfl (fun c176 => absurd c176 (by decide)) (fun c176 => ?_)
          refine q_iconst rfl rfl ?_
          refine q_goto rfl ?_
          refine q_iret rfl rfl rfl ?_
          refine ⟨_, rfl, ?_⟩
          refine q_ifeq rfl rfl (fun c177 => absurd c177 (by decide)) (fun c177 => ?_)
          refine q_iconst rfl rfl ?_
          refine q_iret rfl rfl rfl ?_
          refine ⟨_, rfl, ?_⟩
          refine q_ifne rfl rfl (fun c178 => ?_) (fun c178 => absurd (by decide) c178)
          refine q_iconst rfl rfl ?_
          refine q_iret rfl rfl rfl ?_
          refine ⟨_, rfl, ?_⟩
          refine q_ifne rfl rfl (fun c179 => ?_) (fun c179 => absurd (by decide) c179)
          refine q_goto rfl ?_
          refine q_icc5 (z := 1) rfl rfl rfl rfl rfl ?_
          refine q_goto rfl ?_
          refine q_iload rfl rfl rfl ?_
          refine q_iconst rfl rfl ?_
          refine q_icge rfl rfl (fun c180 => absurd c180 (by decide)) (fun c180 => ?_)
          refine q_iconst rfl rfl ?_
          refine q_sipush rfl rfl ?_
          refine q_iload_n rfl rfl rfl ?_
          refine q_imul rfl rfl (q_tn (z := 0) rfl ?_)
          refine q_iload rfl rfl rfl ?_
          refine q_iadd rfl rfl (q_tn (z := 0) rfl ?_)
          refine q_imul rfl rfl (q_tn (z := 0) rfl ?_)
          refine q_iload rfl rfl rfl ?_
          refine q_iadd rfl rfl (q_tn (z := 1) rfl ?_)
          refine q_ist6 rfl rfl rfl rfl ?_
          refine q_aload_n rfl rfl rfl ?_
          refine q_getf rfl rfl (by decide) rfl rfl ?_
          refine q_iload rfl rfl rfl ?_
          refine q_iconst rfl rfl ?_
          refine q_iast rfl rfl (by decide) rfl (by decide) ?_
          refine q_aload_n rfl rfl rfl ?_
          refine q_iload_n rfl rfl rfl ?_
          refine q_iload rfl rfl rfl ?_
          refine q_cV2v rfl rfl (Or.inl rfl) rfl rfl rfl (by decide) rfl ⟨rfl, rfl⟩ rfl (fun K' hK' => l_sa (R := 0) (by decide) rfl (by decide) rfl rfl rfl rfl rfl hK') ?_
          refine q_iload rfl rfl rfl ?_
          refine q_aload_n rfl rfl rfl ?_
          refine q_getf rfl rfl (by decide) rfl rfl ?_
          refine q_icge rfl rfl (fun c181 => ?_) (fun c181 => absurd (by decide) c181)
          refine q_icc5 (z := 2) rfl rfl rfl rfl rfl ?_
          refine q_goto rfl ?_
          refine q_iload rfl rfl rfl ?_
          refine q_iconst rfl rfl ?_
          refine q_icge rfl rfl (fun c182 => absurd c182 (by decide)) (fun c182 => ?_)
          refine q_iconst rfl rfl ?_
          refine q_sipush rfl rfl ?_
          refine q_iload_n rfl rfl rfl ?_
          refine q_imul rfl rfl (q_tn (z := 0) rfl ?_)
          refine q_iload rfl rfl rfl ?_
          refine q_iadd rfl rfl (q_tn (z := 0) rfl ?_)
          refine q_imul rfl rfl (q_tn (z := 0) rfl ?_)
          refine q_iload rfl rfl rfl ?_
          refine q_iadd rfl rfl (q_tn (z := 2) rfl ?_)
          refine q_ist6 rfl rfl rfl rfl ?_
          refine q_aload_n rfl rfl rfl ?_
          refine q_getf rfl rfl (by decide) rfl rfl ?_
          refine q_iload rfl rfl rfl ?_
          refine q_iconst rfl rfl ?_
          refine q_iast rfl rfl (by decide) rfl (by decide) ?_
          refine q_aload_n rfl rfl rfl ?_
          refine q_iload_n rfl rfl rfl ?_
          refine q_iload rfl rfl rfl ?_
          refine q_cV2v rfl rfl (Or.inl rfl) rfl rfl rfl (by decide) rfl ⟨rfl, rfl⟩ rfl (fun K' hK' => l_sa (R := 0) (by decide) rfl (by decide) rfl rfl rfl rfl rfl hK') ?_
          refine q_iload rfl rfl rfl ?_
          refine q_aload_n rfl rfl rfl ?_
          refine q_getf rfl rfl (by decide) rfl rfl ?_
          refine q_icge rfl rfl (fun c183 => ?_) (fun c183 => absurd (by decide) c183)
          refine q_icc5 (z := 3) rfl rfl rfl rfl rfl ?_
          refine q_goto rfl ?_
          refine q_iload rfl rfl rfl ?_
          refine q_iconst rfl rfl ?_
          refine q_icge rfl rfl (fun c184 => ?_) (fun c184 => absurd (by decide) c184)
          refine q_icc4 (z := 1) rfl rfl rfl rfl rfl ?_
          refine q_goto rfl ?_
          refine q_iload rfl rfl rfl ?_
          refine q_aload_n rfl rfl rfl ?_
          refine q_getf rfl rfl (by decide) rfl rfl ?_
          refine q_iload_n rfl rfl rfl ?_
          refine q_iald rfl rfl (by decide) rfl (by decide) (q_tn (z := 1) rfl ?_)
          refine q_icge rfl rfl (fun c185 => ?_) (fun c185 => absurd (by decide) c185)
          refine q_iconst rfl rfl ?_
          refine q_iret rfl rfl rfl ?_
          refine ⟨_, rfl, ?_⟩
          refine q_ifeq rfl rfl (fun c186 => absurd c186 (by decide)) (fun c186 => ?_)
          refine q_iconst rfl rfl ?_
          refine q_goto rfl ?_
          refine q_iast rfl rfl (by decide) (FW_62 S hW) (by decide) ?_
          refine q_iload_n rfl rfl rfl ?_
          refine q_ifne rfl rfl (fun c187 => ?_) (fun c187 => absurd (by decide) c187)
          refine q_aload_n rfl rfl rfl ?_
          refine q_iconst rfl rfl ?_
          refine q_putf rfl rfl (by decide) rfl (by decide) rfl rfl ?_
          refine q_aload_n rfl rfl rfl ?_
          refine q_getf rfl rfl (by decide) rfl rfl ?_
          refine q_iload_n rfl rfl rfl ?_
          refine q_aload_n rfl rfl rfl ?_
          refine q_getf rfl rfl (by decide) rfl rfl ?_
          refine q_iload_n rfl rfl rfl ?_
          refine q_iald rfl rfl (by decide) rfl (by decide) (q_tn (z := 1) rfl ?_)
          refine q_iast rfl rfl (by decide) (FW_63 S hW) (by decide) ?_
          refine q_iconst rfl rfl ?_
          refine q_ist3n rfl rfl rfl rfl ?_
          refine q_iload_n rfl rfl rfl ?_
          refine q_iconst rfl rfl ?_
          refine q_icge rfl rfl (fun c188 => absurd c188 (by decide)) (fun c188 => ?_)
          refine q_aload_n rfl rfl rfl ?_
          refine q_getf rfl rfl (by decide) rfl rfl ?_
          refine q_iconst rfl rfl ?_
          refine q_iload_n rfl rfl rfl ?_
          refine q_imul rfl rfl (q_tn (z := 0) rfl ?_)
          refine q_iload_n rfl rfl rfl ?_
          refine q_iadd rfl rfl (q_tn (z := 0) rfl ?_)
          refine q_iconst rfl rfl ?_
          refine q_iast rfl rfl (by decide) (FW_64 S hW) (by decide) ?_
          refine q_icc3 (z := 1) rfl rfl rfl rfl rfl ?_
          refine q_goto rfl ?_
          refine q_iload_n rfl rfl rfl ?_
          refine q_iconst rfl rfl ?_
          refine q_icge rfl rfl (fun c189 => absurd c189 (by decide)) (fun c189 => ?_)
          refine q_aload_n rfl rfl rfl ?_
          refine q_getf rfl rfl (by decide) rfl rfl ?_
          refine q_iconst rfl rfl ?_
          refine q_iload_n rfl rfl rfl ?_
          refine q_imul rfl rfl (q_tn (z := 0) rfl ?_)
          refine q_iload_n rfl rfl rfl ?_
          refine q_iadd rfl rfl (q_tn (z := 1) rfl ?_)
          refine q_iconst rfl rfl ?_
          refine q_iast rfl rfl (by decide) rfl (by decide) ?_
          refine q_icc3 (z := 2) rfl rfl rfl rfl rfl ?_
          refine q_goto rfl ?_
          refine q_iload_n rfl rfl rfl ?_
          refine q_iconst rfl rfl ?_
          refine q_icge rfl rfl (fun c190 => absurd c190 (by decide)) (fun c190 => ?_)
          refine q_aload_n rfl rfl rfl ?_
          refine q_getf rfl rfl (by decide) rfl rfl ?_
          refine q_iconst rfl rfl ?_
          refine q_iload_n rfl rfl rfl ?_
          refine q_imul rfl rfl (q_tn (z := 0) rfl ?_)
          refine q_iload_n rfl rfl rfl ?_
          refine q_iadd rfl rfl (q_tn (z := 2) rfl ?_)
          refine q_iconst rfl rfl ?_
          refine q_iast rfl rfl (by decide) rfl (by decide) ?_
          refine q_icc3 (z := 3) rfl rfl rfl rfl rfl ?_
          refine q_goto rfl ?_
          refine q_iload_n rfl rfl rfl ?_
          refine q_iconst rfl rfl ?_
          refine q_icge rfl rfl (fun c191 => absurd c191 (by decide)) (fun c191 => ?_)
          refine q_aload_n rfl rfl rfl ?_
          refine q_getf rfl rfl (by decide) rfl rfl ?_
          refine q_iconst rfl rfl ?_
          refine q_iload_n rfl rfl rfl ?_
          refine q_imul rfl rfl (q_tn (z := 0) rfl ?_)
          refine q_iload_n rfl rfl rfl ?_
          refine q_iadd rfl rfl (q_tn (z := 3) rfl ?_)
          refine q_iconst rfl rfl ?_
          refine q_iast rfl rfl (by decide) rfl (by decide) ?_
          refine q_icc3 (z := 4) rfl rfl rfl rfl rfl ?_
          refine q_goto rfl ?_
          refine q_iload_n rfl rfl rfl ?_
          refine q_iconst rfl rfl ?_
          refine q_icge rfl rfl (fun c192 => ?_) (fun c192 => absurd (by decide) c192)
          refine q_iconst rfl rfl ?_
          refine q_ist3n rfl rfl rfl rfl ?_
          refine q_iload_n rfl rfl rfl ?_
          refine q_aload_n rfl rfl rfl ?_
          refine q_getf rfl rfl (by decide) rfl rfl ?_
          refine q_iload_n rfl rfl rfl ?_
          refine q_iald rfl rfl (by decide) rfl (by decide) (q_tn (z := 1) rfl ?_)
          refine q_icge rfl rfl (fun c193 => absurd c193 (by decide)) (fun c193 => ?_)
          refine q_aload_n rfl rfl rfl ?_
          refine q_iload_n rfl rfl rfl ?_
          refine q_iload_n rfl rfl rfl ?_
          refine q_cV2v rfl rfl (Or.inl rfl) rfl rfl rfl (by decide) rfl ⟨rfl, rfl⟩ rfl (fun K' hK' => l_sa (R := 0) (by decide) rfl (by decide) rfl rfl rfl rfl rfl hK') ?_
          refine q_aload_n rfl rfl rfl ?_
          refine q_nV0 rfl rfl (Or.inl rfl) rfl rfl rfl (by decide) rfl ⟨rfl, rfl⟩ rfl ?_
          change PQ _ _ _ mm_X12_isEnd 0 [.ref 46, pm_un, pm_un] [] _ _ 0 0 _
          refine q_iconst rfl rfl ?_
          refine q_ist1n rfl rfl rfl rfl ?_
          refine q_iconst rfl rfl ?_
          refine q_ist2n rfl rfl rfl rfl ?_
          refine q_iload_n rfl rfl rfl ?_
          refine q_aload_n rfl rfl rfl ?_
          refine q_getf rfl rfl (by decide) rfl rfl ?_
          refine q_icge rfl rfl (fun c194 => absurd c194 (by decide)) (fun c194 => ?_)
          refine q_iload_n rfl rfl rfl ?_
          refine q_ifeq rfl rfl (fun c195 => absurd c195 (by decide)) (fun c195 => ?_)
          refine q_aload_n rfl rfl rfl ?_
          refine q_iload_n rfl rfl rfl ?_
          refine q_nV1 rfl rfl (Or.inl rfl) rfl rfl rfl (by decide) rfl ⟨rfl, rfl⟩ rfl ?_
          change PQ _ _ _ mm_X12_isOver 0 [.ref 46, .int 0] [] _ _ 0 0 _
          refine q_aload_n rfl rfl rfl ?_
          refine q_getf rfl rfl (by decide) rfl rfl ?_
          refine q_iconst rfl rfl ?_
          refine q_iload_n rfl rfl rfl ?_
          refine q_imul rfl rfl (q_tn (z := 0) rfl ?_)
          refine q_iald rfl rfl (by decide) rfl (by decide) (q_tn (z := 10) rfl ?_)
          refine q_bipush rfl rfl ?_
          refine q_iclt rfl rfl (fun c196 => absurd c196 (by decide)) (fun c196 => ?_)
          refine q_iconst rfl rfl ?_
          refine q_goto rfl ?_
          refine q_iret rfl rfl rfl ?_
          refine ⟨_, rfl, ?_⟩
          refine q_ifeq rfl rfl (fun c197 => absurd c197 (by decide)) (fun c197 => ?_)
          refine q_iconst rfl rfl ?_
          refine q_goto rfl ?_
          refine q_ist1n rfl rfl rfl rfl ?_
          refine q_icc2 (z := 1) rfl rfl rfl rfl rfl ?_
          refine q_goto rfl ?_
          refine q_iload_n rfl rfl rfl ?_
          refine q_aload_n rfl rfl rfl ?_
          refine q_getf rfl rfl (by decide) rfl rfl ?_
          refine q_icge rfl rfl (fun c198 => ?_) (fun c198 => absurd (by decide) c198)
          refine q_iload_n rfl rfl rfl ?_
          refine q_iret rfl rfl rfl ?_
          refine ⟨_, rfl, ?_⟩
          refine q_ifne rfl rfl (fun c199 => absurd c199 (by decide)) (fun c199 => ?_)
          refine q_iconst rfl rfl ?_
          refine q_ist4 rfl rfl rfl rfl ?_
          refine q_iload rfl rfl rfl ?_
          refine q_iconst rfl rfl ?_
          refine q_icge rfl rfl (fun c200 => absurd c200 (by decide)) (fun c200 => ?_)
          refine q_aload_n rfl rfl rfl ?_
          refine q_getf rfl rfl (by decide) rfl rfl ?_
          refine q_iconst rfl rfl ?_
          refine q_iload_n rfl rfl rfl ?_
          refine q_imul rfl rfl (q_tn (z := 0) rfl ?_)
          refine q_iload rfl rfl rfl ?_
          refine q_iadd rfl rfl (q_tn (z := 0) rfl ?_)
          refine q_dup2 rfl rfl ?_
          refine q_iald rfl rfl (by decide) rfl (by decide) (q_tn (z := 0) rfl ?_)
          refine q_iconst rfl rfl ?_
          refine q_aload_n rfl rfl rfl ?_
          refine q_getf rfl rfl (by decide) rfl rfl ?_
          refine q_bipush rfl rfl ?_
          refine q_iload rfl rfl rfl ?_
          refine q_iadd rfl rfl (q_tn (z := 12) rfl ?_)
          refine q_iald rfl rfl (by decide) rfl (by decide) (q_tn (z := 0) rfl ?_)
          refine q_ishl rfl rfl (q_tn (z := 1) rfl ?_)
          refine q_ior rfl rfl (q_tn (z := 1) rfl ?_)
          refine q_iast rfl rfl (by decide) rfl (by decide) ?_
          refine q_icc4 (z := 1) rfl rfl rfl rfl rfl ?_
          refine q_goto rfl ?_
          refine q_iload rfl rfl rfl ?_
          refine q_iconst rfl rfl ?_
          refine q_icge rfl rfl (fun c201 => absurd c201 (by decide)) (fun c201 => ?_)
          refine q_aload_n rfl rfl rfl ?_
          refine q_getf rfl rfl (by decide) rfl rfl ?_
          refine q_iconst rfl rfl ?_
          refine q_iload_n rfl rfl rfl ?_
          refine q_imul rfl rfl (q_tn (z := 0) rfl ?_)
          refine q_iload rfl rfl rfl ?_
          refine q_iadd rfl rfl (q_tn (z := 1) rfl ?_)
          refine q_dup2 rfl rfl ?_
          refine q_iald rfl rfl (by decide) rfl (by decide) (q_tn (z := 0) rfl ?_)
          refine q_iconst rfl rfl ?_
          refine q_aload_n rfl rfl rfl ?_
          refine q_getf rfl rfl (by decide) rfl rfl ?_
          refine q_bipush rfl rfl ?_
          refine q_iload rfl rfl rfl ?_
          refine q_iadd rfl rfl (q_tn (z := 13) rfl ?_)
          refine q_iald rfl rfl (by decide) rfl (by decide) (q_tn (z := 0) rfl ?_)
          refine q_ishl rfl rfl (q_tn (z := 1) rfl ?_)
          refine q_ior rfl rfl (q_tn (z := 1) rfl ?_)
          refine q_iast rfl rfl (by decide) rfl (by decide) ?_
          refine q_icc4 (z := 2) rfl rfl rfl rfl rfl ?_
          refine q_goto rfl ?_
          refine q_iload rfl rfl rfl ?_
          refine q_iconst rfl rfl ?_
          refine q_icge rfl rfl (fun c202 => absurd c202 (by decide)) (fun c202 => ?_)
          refine q_aload_n rfl rfl rfl ?_
          refine q_getf rfl rfl (by decide) rfl rfl ?_
          refine q_iconst rfl rfl ?_
          refine q_iload_n rfl rfl rfl ?_
          refine q_imul rfl rfl (q_tn (z := 0) rfl ?_)
          refine q_iload rfl rfl rfl ?_
          refine q_iadd rfl rfl (q_tn (z := 2) rfl ?_)
          refine q_dup2 rfl rfl ?_
          refine q_iald rfl rfl (by decide) rfl (by decide) (q_tn (z := 0) rfl ?_)
          refine q_iconst rfl rfl ?_
          refine q_aload_n rfl rfl rfl ?_
          refine q_getf rfl rfl (by decide) rfl rfl ?_
          refine q_bipush rfl rfl ?_
          refine q_iload rfl rfl rfl ?_
          refine q_iadd rfl rfl (q_tn (z := 14) rfl ?_)
          refine q_iald rfl rfl (by decide) rfl (by decide) (q_tn (z := 0) rfl ?_)
          refine q_ishl rfl rfl (q_tn (z := 1) rfl ?_)
          refine q_ior rfl rfl (q_tn (z := 1) rfl ?_)
          refine q_iast rfl rfl (by decide) rfl (by decide) ?_
          refine q_icc4 (z := 3) rfl rfl rfl rfl rfl ?_
          refine q_goto rfl ?_
          refine q_iload rfl rfl rfl ?_
          refine q_iconst rfl rfl ?_
          refine q_icge rfl rfl (fun c203 => absurd c203 (by decide)) (fun c203 => ?_)
          refine q_aload_n rfl rfl rfl ?_
          refine q_getf rfl rfl (by decide) rfl rfl ?_
          refine q_iconst rfl rfl ?_
          refine q_iload_n rfl rfl rfl ?_
          refine q_imul rfl rfl (q_tn (z := 0) rfl ?_)
          refine q_iload rfl rfl rfl ?_
          refine q_iadd rfl rfl (q_tn (z := 3) rfl ?_)
          refine q_dup2 rfl rfl ?_
          refine q_iald rfl rfl (by decide) rfl (by decide) (q_tn (z := 0) rfl ?_)
          refine q_iconst rfl rfl ?_
          refine q_aload_n rfl rfl rfl ?_
          refine q_getf rfl rfl (by decide) rfl rfl ?_
          refine q_bipush rfl rfl ?_
          refine q_iload rfl rfl rfl ?_
          refine q_iadd rfl rfl (q_tn (z := 15) rfl ?_)
          refine q_iald rfl rfl (by decide) rfl (by decide) (q_tn (z := 0) rfl ?_)
          refine q_ishl rfl rfl (q_tn (z := 1) rfl ?_)
          refine q_ior rfl rfl (q_tn (z := 1) rfl ?_)
          refine q_iast rfl rfl (by decide) rfl (by decide) ?_
          refine q_icc4 (z := 4) rfl rfl rfl rfl rfl ?_
          refine q_goto rfl ?_
          refine q_iload rfl rfl rfl ?_
          refine q_iconst rfl rfl ?_
          refine q_icge rfl rfl (fun c204 => ?_) (fun c204 => absurd (by decide) c204)
          refine q_icc3 (z := 1) rfl rfl rfl rfl rfl ?_
          refine q_goto rfl ?_
          refine q_iload_n rfl rfl rfl ?_
          refine q_aload_n rfl rfl rfl ?_
          refine q_getf rfl rfl (by decide) rfl rfl ?_
          refine q_iload_n rfl rfl rfl ?_
          refine q_iald rfl rfl (by decide) rfl (by decide) (q_tn (z := 1) rfl ?_)
          refine q_icge rfl rfl (fun c205 => ?_) (fun c205 => absurd (by decide) c205)
          refine q_aload_n rfl rfl rfl ?_
          refine q_getf rfl rfl (by decide) rfl rfl ?_
          refine q_iload_n rfl rfl rfl ?_
          refine q_iald rfl rfl (by decide) rfl (by decide) (q_tn (z := 1) rfl ?_)
          refine q_iconst rfl rfl ?_
          refine q_icne rfl rfl (fun c206 => absurd c206 (by decide)) (fun c206 => ?_)
          refine q_iconst rfl rfl ?_
          refine q_iret rfl rfl rfl ?_
          refine ⟨_, rfl, ?_⟩
          refine q_ifeq rfl rfl (fun c207 => ?_) (fun c207 => absurd (by decide) c207)
          refine q_iload_n rfl rfl rfl ?_
          refine q_aload_n rfl rfl rfl ?_
          refine q_getf rfl rfl (by decide) rfl rfl ?_
          refine q_iconst rfl rfl ?_
          refine q_iald rfl rfl (by decide) rfl (by decide) (q_tn (z := 1) rfl ?_)
          refine q_iclt rfl rfl (fun c208 => ?_) (fun c208 => absurd (by decide) c208)
          refine q_iconst rfl rfl ?_
          refine q_iret rfl rfl trivial ?_
          refine ⟨_, rfl, ?_⟩
          refine q_ifeq rfl rfl (fun c209 => ?_) (fun c209 => absurd (by decide) c209)
          refine q_aload_n rfl rfl rfl ?_
          refine q_iload_n rfl rfl rfl ?_
          refine q_nV1 rfl rfl (Or.inl rfl) rfl rfl rfl (by decide) rfl ⟨rfl, rfl⟩ rfl ?_
          change PQ _ _ _ mm_X12_length 0 [.ref 46, .int 0, pm_un, pm_un] [] _ _ 0 0 _
          refine q_iconst rfl rfl ?_
          refine q_ist2n rfl rfl rfl rfl ?_
          refine q_iload_n rfl rfl rfl ?_
          refine q_ist3n rfl rfl rfl rfl ?_
          refine q_iload_n rfl rfl rfl ?_
          refine q_ifle rfl rfl (fun c210 => ?_) (fun c210 => absurd (by decide) c210)
          refine q_iload_n rfl rfl rfl ?_
          refine q_iret rfl rfl trivial ?_
          refine ⟨_, rfl, ?_⟩
          refine q_iconst rfl rfl ?_
          refine q_isub rfl rfl (q_tn (z := (-1)) rfl ?_)
          refine q_iload_n rfl rfl rfl ?_
          refine q_isub rfl rfl ?_
          refine q_ist3n rfl rfl rfl rfl ?_
          refine q_iload_n rfl rfl rfl ?_
          refine q_ifge rfl rfl (fun c211 => absurd c211 (i_ge_f (i_m1s c1 rfl) rfl)) (fun c211 => ?_)
          refine q_bipush rfl rfl ?_
          refine q_iret rfl rfl trivial ?_
          refine ⟨_, rfl, ?_⟩
          refine q_iceq rfl rfl (fun c212 => ?_) (fun c212 => absurd (by decide) c212)
          refine q_icc4 (z := 6) rfl rfl rfl rfl rfl ?_
          refine q_goto rfl ?_
          refine q_iload rfl rfl rfl ?_
          refine q_aload_nF rfl rfl rfl ?_
          refine q_alenX (x := 6) rfl rfl rfl ?_
          refine q_bipush rfl rfl ?_
          refine q_isub rfl rfl (q_tn (z := 0) rfl ?_)
          refine q_icgt rfl rfl (fun c213 => ?_) (fun c213 => absurd (by decide) c213)
          refine q_iconst rfl rfl ?_
          refine q_iret rfl rfl rfl ?_
          exact hK _ _
      · refine q_iconst rfl rfl ?_
        refine q_goto rfl ?_
        refine q_iret rfl rfl trivial ?_
        refine ⟨_, rfl, ?_⟩
        refine q_ist3n rfl rfl rfl rfl ?_
        refine q_iload_n rfl rfl rfl ?_
        refine q_ifeq rfl rfl (fun c214 => absurd c214 (by decide)) (fun c214 => ?_)
        refine q_iload_n rfl rfl rfl ?_
        refine q_iret rfl rfl trivial ?_
        refine ⟨_, rfl, ?_⟩
        refine q_aload_n rfl rfl rfl ?_
        refine q_aload_nF rfl rfl rfl ?_
        refine q_iload rfl rfl rfl ?_
        refine q_iconst rfl rfl ?_
        refine q_iadd rfl rfl (q_tn (z := 1) rfl ?_)
        refine q_ialdX (x := x1) rfl rfl rfl hx1 ?_
        refine q_aload_nF rfl rfl rfl ?_
        refine q_iload rfl rfl rfl ?_
        refine q_iconst rfl rfl ?_
        refine q_iadd rfl rfl (q_tn (z := 2) rfl ?_)
        refine q_ialdX (x := x2) rfl rfl rfl hx2 ?_
        refine q_nV2 rfl rfl (Or.inl rfl) rfl rfl rfl (by decide) (FW_46 S hW) ⟨rfl, rfl⟩ rfl ?_
        change PQ _ _ _ mm_X12_step 0 [.ref 46, .int x1, .int x2, pm_un, pm_un, pm_un] [] _ _ 0 0 _
        refine q_iload_n rfl rfl rfl ?_
        refine q_iflt rfl rfl (fun c215 => absurd c215 (i_lt_f (i_nlt c69) rfl)) (fun c215 => ?_)
        refine q_iload_n rfl rfl rfl ?_
        refine q_ifge rfl rfl (fun c216 => ?_) (fun c216 => absurd (i_ge_t c1 rfl) c216)
        refine q_aload_n rfl rfl rfl ?_
        refine q_iload_n rfl rfl rfl ?_
        refine q_nV1 rfl rfl (Or.inl rfl) rfl rfl rfl (by decide) (FW_46 S hW) ⟨rfl, rfl⟩ rfl ?_
        change PQ _ _ _ mm_X12_lacks 0 [.ref 46, .int x1] [] _ _ 0 0 _
        refine q_iload_n rfl rfl rfl ?_
        refine q_ifge rfl rfl (fun c217 => ?_) (fun c217 => absurd (i_ge_t (i_nlt c69) rfl) c217)
        refine q_aload_n rfl rfl rfl ?_
        refine q_iconst rfl rfl ?_
        refine q_nV1 rfl rfl (Or.inl rfl) rfl rfl rfl (by decide) (FW_46 S hW) ⟨rfl, rfl⟩ rfl ?_
        change PQ _ _ _ mm_X12_isSpent 0 [.ref 46, .int 0, pm_un, pm_un, pm_un] [] _ _ 0 0 _
        refine q_iload_n rfl rfl rfl ?_
        refine q_ifne rfl rfl (fun c218 => ?_) (fun c218 => absurd (by decide) c218)
        refine q_iconst rfl rfl ?_
        refine q_goto rfl ?_
        refine q_ist2n rfl rfl rfl rfl ?_
        refine q_aload_n rfl rfl rfl ?_
        refine q_iconst rfl rfl ?_
        refine q_putf rfl rfl (by decide) (FW_46 S hW) (by decide) rfl trivial ?_
        refine q_aload_n rfl rfl rfl ?_
        refine q_getf rfl rfl (by decide) rfl rfl ?_
        refine q_iload_n rfl rfl rfl ?_
        refine q_iald rfl rfl (by decide) (FW_62 S hW) (by decide) (q_tn (z := 0) rfl ?_)
        refine q_ifeq rfl rfl (fun c219 => ?_) (fun c219 => absurd (by decide) c219)
        refine q_aload_n rfl rfl rfl ?_
        refine q_getf rfl rfl (by decide) rfl rfl ?_
        refine q_iload_n rfl rfl rfl ?_
        refine q_aload_n rfl rfl rfl ?_
        refine q_iload_n rfl rfl rfl ?_
        refine q_iload_n rfl rfl rfl ?_
        refine q_nV2 rfl rfl (Or.inl rfl) rfl rfl rfl (by decide) rfl ⟨rfl, rfl⟩ rfl ?_
        change PQ _ _ _ mm_X12_explore 0 [.ref 46, .int 0, .int 0, pm_un, pm_un, pm_un, pm_un, pm_un] [] _ _ 0 0 _
        refine q_iconst rfl rfl ?_
        refine q_ist3n rfl rfl rfl rfl ?_
        refine l_net (R := 0) (by decide) rfl (by decide) rfl rfl (FW_61 S hW) ?_
        refine q_aload_n rfl rfl rfl ?_
        refine q_getf rfl rfl (by decide) rfl rfl ?_
        refine q_iload_n rfl rfl rfl ?_
        refine q_iconst rfl rfl ?_
        refine q_iast rfl rfl (by decide) (FW_60 S hW) (by decide) ?_
        refine q_aload_n rfl rfl rfl ?_
        refine q_nV0v rfl rfl (Or.inl rfl) rfl rfl rfl (by decide) rfl ⟨rfl, rfl⟩ rfl ?_
        change PQ _ _ _ mm_X12_firstState 0 [.ref 46, pm_un] [] _ _ 0 0 _
        refine q_iconst rfl rfl ?_
        refine q_ist1n rfl rfl rfl rfl ?_
        refine q_iload_n rfl rfl rfl ?_
        refine q_bipush rfl rfl ?_
        refine q_icge rfl rfl (fun c220 => absurd c220 (by decide)) (fun c220 => ?_)
        refine q_aload_n rfl rfl rfl ?_
        refine q_getf rfl rfl (by decide) rfl rfl ?_
        refine q_iload_n rfl rfl rfl ?_
        refine q_iconst rfl rfl ?_
        refine q_iast rfl rfl (by decide) (FW_52 S hW) (by decide) ?_
        refine q_icc1 (z := 1) rfl rfl rfl rfl rfl ?_
        refine q_goto rfl ?_
        refine q_iload_n rfl rfl rfl ?_
        refine q_bipush rfl rfl ?_
        refine q_icge rfl rfl (fun c221 => absurd c221 (by decide)) (fun c221 => ?_)
        refine q_aload_n rfl rfl rfl ?_
        refine q_getf rfl rfl (by decide) rfl rfl ?_
        refine q_iload_n rfl rfl rfl ?_
        refine q_iconst rfl rfl ?_
        refine q_iast rfl rfl (by decide) rfl (by decide) ?_
        refine q_icc1 (z := 2) rfl rfl rfl rfl rfl ?_
        refine q_goto rfl ?_
        refine q_iload_n rfl rfl rfl ?_
        refine q_bipush rfl rfl ?_
        refine q_icge rfl rfl (fun c222 => absurd c222 (by decide)) (fun c222 => ?_)
        refine q_aload_n rfl rfl rfl ?_
        refine q_getf rfl rfl (by decide) rfl rfl ?_
        refine q_iload_n rfl rfl rfl ?_
        refine q_iconst rfl rfl ?_
        refine q_iast rfl rfl (by decide) rfl (by decide) ?_
        refine q_icc1 (z := 3) rfl rfl rfl rfl rfl ?_
        refine q_goto rfl ?_
        refine q_iload_n rfl rfl rfl ?_
        refine q_bipush rfl rfl ?_
        refine q_icge rfl rfl (fun c223 => absurd c223 (by decide)) (fun c223 => ?_)
        refine q_aload_n rfl rfl rfl ?_
        refine q_getf rfl rfl (by decide) rfl rfl ?_
        refine q_iload_n rfl rfl rfl ?_
        refine q_iconst rfl rfl ?_
        refine q_iast rfl rfl (by decide) rfl (by decide) ?_
        refine q_icc1 (z := 4) rfl rfl rfl rfl rfl ?_
        refine q_goto rfl ?_
        refine q_iload_n rfl rfl rfl ?_
        refine q_bipush rfl rfl ?_
        refine q_icge rfl rfl (fun c224 => absurd c224 (by decide)) (fun c224 => ?_)
        refine q_aload_n rfl rfl rfl ?_
        refine q_getf rfl rfl (by decide) rfl rfl ?_
        refine q_iload_n rfl rfl rfl ?_
        refine q_iconst rfl rfl ?_
        refine q_iast rfl rfl (by decide) rfl (by decide) ?_
        refine q_icc1 (z := 5) rfl rfl rfl rfl rfl ?_
        refine q_goto rfl ?_
        refine q_iload_n rfl rfl rfl ?_
        refine q_bipush rfl rfl ?_
        refine q_icge rfl rfl (fun c225 => absurd c225 (by decide)) (fun c225 => ?_)
        refine q_aload_n rfl rfl rfl ?_
        refine q_getf rfl rfl (by decide) rfl rfl ?_
        refine q_iload_n rfl rfl rfl ?_
        refine q_iconst rfl rfl ?_
        refine q_iast rfl rfl (by decide) rfl (by decide) ?_
        refine q_icc1 (z := 6) rfl rfl rfl rfl rfl ?_
        refine q_goto rfl ?_
        refine q_iload_n rfl rfl rfl ?_
        refine q_bipush rfl rfl ?_
        refine q_icge rfl rfl (fun c226 => absurd c226 (by decide)) (fun c226 => ?_)
        refine q_aload_n rfl rfl rfl ?_
        refine q_getf rfl rfl (by decide) rfl rfl ?_
        refine q_iload_n rfl rfl rfl ?_
        refine q_iconst rfl rfl ?_
        refine q_iast rfl rfl (by decide) rfl (by decide) ?_
        refine q_icc1 (z := 7) rfl rfl rfl rfl rfl ?_
        refine q_goto rfl ?_
        refine q_iload_n rfl rfl rfl ?_
        refine q_bipush rfl rfl ?_
        refine q_icge rfl rfl (fun c227 => absurd c227 (by decide)) (fun c227 => ?_)
        refine q_aload_n rfl rfl rfl ?_
        refine q_getf rfl rfl (by decide) rfl rfl ?_
        refine q_iload_n rfl rfl rfl ?_
        refine q_iconst rfl rfl ?_
        refine q_iast rfl rfl (by decide) rfl (by decide) ?_
        refine q_icc1 (z := 8) rfl rfl rfl rfl rfl ?_
        refine q_goto rfl ?_
        refine q_iload_n rfl rfl rfl ?_
        refine q_bipush rfl rfl ?_
        refine q_icge rfl rfl (fun c228 => absurd c228 (by decide)) (fun c228 => ?_)
        refine q_aload_n rfl rfl rfl ?_
        refine q_getf rfl rfl (by decide) rfl rfl ?_
        refine q_iload_n rfl rfl rfl ?_
        refine q_iconst rfl rfl ?_
        refine q_iast rfl rfl (by decide) rfl (by decide) ?_
        refine q_icc1 (z := 9) rfl rfl rfl rfl rfl ?_
        refine q_goto rfl ?_
        refine q_iload_n rfl rfl rfl ?_
        refine q_bipush rfl rfl ?_
        refine q_icge rfl rfl (fun c229 => absurd c229 (by decide)) (fun c229 => ?_)
        refine q_aload_n rfl rfl rfl ?_
        refine q_getf rfl rfl (by decide) rfl rfl ?_
        refine q_iload_n rfl rfl rfl ?_
        refine q_iconst rfl rfl ?_
        refine q_iast rfl rfl (by decide) rfl (by decide) ?_
        refine q_icc1 (z := 10) rfl rfl rfl rfl rfl ?_
        refine q_goto rfl ?_
        refine q_iload_n rfl rfl rfl ?_
        refine q_bipush rfl rfl ?_
        refine q_icge rfl rfl (fun c230 => absurd c230 (by decide)) (fun c230 => ?_)
        refine q_aload_n rfl rfl rfl ?_
        refine q_getf rfl rfl (by decide) rfl rfl ?_
        refine q_iload_n rfl rfl rfl ?_
        refine q_iconst rfl rfl ?_
        refine q_iast rfl rfl (by decide) rfl (by decide) ?_
        refine q_icc1 (z := 11) rfl rfl rfl rfl rfl ?_
        refine q_goto rfl ?_
        refine q_iload_n rfl rfl rfl ?_
        refine q_bipush rfl rfl ?_
        refine q_icge rfl rfl (fun c231 => absurd c231 (by decide)) (fun c231 => ?_)
        refine q_aload_n rfl rfl rfl ?_
        refine q_getf rfl rfl (by decide) rfl rfl ?_
        refine q_iload_n rfl rfl rfl ?_
        refine q_iconst rfl rfl ?_
        refine q_iast rfl rfl (by decide) rfl (by decide) ?_
        refine q_icc1 (z := 12) rfl rfl rfl rfl rfl ?_
        refine q_goto rfl ?_
        refine q_iload_n rfl rfl rfl ?_
        refine q_bipush rfl rfl ?_
        refine q_icge rfl rfl (fun c232 => absurd c232 (by decide)) (fun c232 => ?_)
        refine q_aload_n rfl rfl rfl ?_
        refine q_getf rfl rfl (by decide) rfl rfl ?_
        refine q_iload_n rfl rfl rfl ?_
        refine q_iconst rfl rfl ?_
        refine q_iast rfl rfl (by decide) rfl (by decide) ?_
        refine q_icc1 (z := 13) rfl rfl rfl rfl rfl ?_
        refine q_goto rfl ?_
        refine q_iload_n rfl rfl rfl ?_
        refine q_bipush rfl rfl ?_
        refine q_icge rfl rfl (fun c233 => absurd c233 (by decide)) (fun c233 => ?_)
        refine q_aload_n rfl rfl rfl ?_
        refine q_getf rfl rfl (by decide) rfl rfl ?_
        refine q_iload_n rfl rfl rfl ?_
        refine q_iconst rfl rfl ?_
        refine q_iast rfl rfl (by decide) rfl (by decide) ?_
        refine q_icc1 (z := 14) rfl rfl rfl rfl rfl ?_
        refine q_goto rfl ?_
        refine q_iload_n rfl rfl rfl ?_
        refine q_bipush rfl rfl ?_
        refine q_icge rfl rfl (fun c234 => absurd c234 (by decide)) (fun c234 => ?_)
        refine q_aload_n rfl rfl rfl ?_
        refine q_getf rfl rfl (by decide) rfl rfl ?_
        refine q_iload_n rfl rfl rfl ?_
        refine q_iconst rfl rfl ?_
        refine q_iast rfl rfl (by decide) rfl (by decide) ?_
        refine q_icc1 (z := 15) rfl rfl rfl rfl rfl ?_
        refine q_goto rfl ?_
        refine q_iload_n rfl rfl rfl ?_
        refine q_bipush rfl rfl ?_
        refine q_icge rfl rfl (fun c235 => absurd c235 (by decide)) (fun c235 => ?_)
        refine q_aload_n rfl rfl rfl ?_
        refine q_getf rfl rfl (by decide) rfl rfl ?_
        refine q_iload_n rfl rfl rfl ?_
        refine q_iconst rfl rfl ?_
        refine q_iast rfl rfl (by decide) rfl (by decide) ?_
        refine q_icc1 (z := 16) rfl rfl rfl rfl rfl ?_
        refine q_goto rfl ?_
        refine q_iload_n rfl rfl rfl ?_
        refine q_bipush rfl rfl ?_
        refine q_icge rfl rfl (fun c236 => absurd c236 (by decide)) (fun c236 => ?_)
        refine q_aload_n rfl rfl rfl ?_
        refine q_getf rfl rfl (by decide) rfl rfl ?_
        refine q_iload_n rfl rfl rfl ?_
        refine q_iconst rfl rfl ?_
        refine q_iast rfl rfl (by decide) rfl (by decide) ?_
        refine q_icc1 (z := 17) rfl rfl rfl rfl rfl ?_
        refine q_goto rfl ?_
        refine q_iload_n rfl rfl rfl ?_
        refine q_bipush rfl rfl ?_
        refine q_icge rfl rfl (fun c237 => absurd c237 (by decide)) (fun c237 => ?_)
        refine q_aload_n rfl rfl rfl ?_
        refine q_getf rfl rfl (by decide) rfl rfl ?_
        refine q_iload_n rfl rfl rfl ?_
        refine q_iconst rfl rfl ?_
        refine q_iast rfl rfl (by decide) rfl (by decide) ?_
        refine q_icc1 (z := 18) rfl rfl rfl rfl rfl ?_
        refine q_goto rfl ?_
        refine q_iload_n rfl rfl rfl ?_
        refine q_bipush rfl rfl ?_
        refine q_icge rfl rfl (fun c238 => absurd c238 (by decide)) (fun c238 => ?_)
        refine q_aload_n rfl rfl rfl ?_
        refine q_getf rfl rfl (by decide) rfl rfl ?_
        refine q_iload_n rfl rfl rfl ?_
        refine q_iconst rfl rfl ?_
        refine q_iast rfl rfl (by decide) rfl (by decide) ?_
        refine q_icc1 (z := 19) rfl rfl rfl rfl rfl ?_
        refine q_goto rfl ?_
        refine q_iload_n rfl rfl rfl ?_
        refine q_bipush rfl rfl ?_
        refine q_icge rfl rfl (fun c239 => absurd c239 (by decide)) (fun c239 => ?_)
        refine q_aload_n rfl rfl rfl ?_
        refine q_getf rfl rfl (by decide) rfl rfl ?_
        refine q_iload_n rfl rfl rfl ?_
        refine q_iconst rfl rfl ?_
        refine q_iast rfl rfl (by decide) rfl (by decide) ?_
        refine q_icc1 (z := 20) rfl rfl rfl rfl rfl ?_
        refine q_goto rfl ?_
        refine q_iload_n rfl rfl rfl ?_
        refine q_bipush rfl rfl ?_
        refine q_icge rfl rfl (fun c240 => ?_) (fun c240 => absurd (by decide) c240)
        refine q_iconst rfl rfl ?_
        refine q_ist1n rfl rfl rfl rfl ?_
        refine q_iload_n rfl rfl rfl ?_
        refine q_aload_n rfl rfl rfl ?_
        refine q_getf rfl rfl (by decide) rfl rfl ?_
        refine q_icge rfl rfl (fun c241 => absurd c241 (by decide)) (fun c241 => ?_)
        refine q_aload_n rfl rfl rfl ?_
        refine q_getf rfl rfl (by decide) rfl rfl ?_
        refine q_iconst rfl rfl ?_
        refine q_iload_n rfl rfl rfl ?_
        refine q_imul rfl rfl (q_tn (z := 0) rfl ?_)
        refine q_aload_n rfl rfl rfl ?_
        refine q_getf rfl rfl (by decide) rfl rfl ?_
        refine q_aload_n rfl rfl rfl ?_
        refine q_getf rfl rfl (by decide) rfl rfl ?_
        refine q_iload_n rfl rfl rfl ?_
        refine q_iadd rfl rfl (q_tn (z := 0) rfl ?_)
        refine q_iald rfl rfl (by decide) (FW_47 S hW) (by decide) (q_tn (z := 0) rfl ?_)
        refine q_ifne rfl rfl (fun c242 => ?_) (fun c242 => absurd (by decide) c242)
        refine q_bipush rfl rfl ?_
        refine q_goto rfl ?_
        refine q_iast rfl rfl (by decide) rfl (by decide) ?_
        refine q_icc1 (z := 1) rfl rfl rfl rfl rfl ?_
        refine q_goto rfl ?_
        refine q_iload_n rfl rfl rfl ?_
        refine q_aload_n rfl rfl rfl ?_
        refine q_getf rfl rfl (by decide) rfl rfl ?_
        refine q_icge rfl rfl (fun c243 => ?_) (fun c243 => absurd (by decide) c243)
        refine q_iconst rfl rfl ?_
        refine q_ist1n rfl rfl rfl rfl ?_
        refine q_iload_n rfl rfl rfl ?_
        refine q_iconst rfl rfl ?_
        refine q_icge rfl rfl (fun c244 => absurd c244 (by decide)) (fun c244 => ?_)
        refine q_aload_n rfl rfl rfl ?_
        refine q_getf rfl rfl (by decide) rfl rfl ?_
        refine q_bipush rfl rfl ?_
        refine q_iload_n rfl rfl rfl ?_
        refine q_iadd rfl rfl (q_tn (z := 12) rfl ?_)
        refine q_aload_n rfl rfl rfl ?_
        refine q_getf rfl rfl (by decide) rfl rfl ?_
        refine q_iload_n rfl rfl rfl ?_
        refine q_iald rfl rfl (by decide) (FW_51 S hW) (by decide) (q_tn (z := 0) rfl ?_)
        refine q_iast rfl rfl (by decide) rfl (by decide) ?_
        refine q_icc1 (z := 1) rfl rfl rfl rfl rfl ?_
        refine q_goto rfl ?_
        refine q_iload_n rfl rfl rfl ?_
        refine q_iconst rfl rfl ?_
        refine q_icge rfl rfl (fun c245 => absurd c245 (by decide)) (fun c245 => ?_)
        refine q_aload_n rfl rfl rfl ?_
        refine q_getf rfl rfl (by decide) rfl rfl ?_
        refine q_bipush rfl rfl ?_
        refine q_iload_n rfl rfl rfl ?_
        refine q_iadd rfl rfl (q_tn (z := 13) rfl ?_)
        refine q_aload_n rfl rfl rfl ?_
        refine q_getf rfl rfl (by decide) rfl rfl ?_
        refine q_iload_n rfl rfl rfl ?_
        refine q_iald rfl rfl (by decide) (FW_51 S hW) (by decide) (q_tn (z := 0) rfl ?_)
        refine q_iast rfl rfl (by decide) rfl (by decide) ?_
        refine q_icc1 (z := 2) rfl rfl rfl rfl rfl ?_
        refine q_goto rfl ?_
        refine q_iload_n rfl rfl rfl ?_
        refine q_iconst rfl rfl ?_
        refine q_icge rfl rfl (fun c246 => absurd c246 (by decide)) (fun c246 => ?_)
        refine q_aload_n rfl rfl rfl ?_
        refine q_getf rfl rfl (by decide) rfl rfl ?_
        refine q_bipush rfl rfl ?_
        refine q_iload_n rfl rfl rfl ?_
        refine q_iadd rfl rfl (q_tn (z := 14) rfl ?_)
        refine q_aload_n rfl rfl rfl ?_
        refine q_getf rfl rfl (by decide) rfl rfl ?_
        refine q_iload_n rfl rfl rfl ?_
        refine q_iald rfl rfl (by decide) (FW_51 S hW) (by decide) (q_tn (z := 0) rfl ?_)
        refine q_iast rfl rfl (by decide) rfl (by decide) ?_
        refine q_icc1 (z := 3) rfl rfl rfl rfl rfl ?_
        refine q_goto rfl ?_
        refine q_iload_n rfl rfl rfl ?_
        refine q_iconst rfl rfl ?_
        refine q_icge rfl rfl (fun c247 => absurd c247 (by decide)) (fun c247 => ?_)
        refine q_aload_n rfl rfl rfl ?_
        refine q_getf rfl rfl (by decide) rfl rfl ?_
        refine q_bipush rfl rfl ?_
        refine q_iload_n rfl rfl rfl ?_
        refine q_iadd rfl rfl (q_tn (z := 15) rfl ?_)
        refine q_aload_n rfl rfl rfl ?_
        refine q_getf rfl rfl (by decide) rfl rfl ?_
        refine q_iload_n rfl rfl rfl ?_
        refine q_iald rfl rfl (by decide) (FW_51 S hW) (by decide) (q_tn (z := 0) rfl ?_)
        refine q_iast rfl rfl (by decide) rfl (by decide) ?_
        refine q_icc1 (z := 4) rfl rfl rfl rfl rfl ?_
        refine q_goto rfl ?_
        refine q_iload_n rfl rfl rfl ?_
        refine q_iconst rfl rfl ?_
        refine q_icge rfl rfl (fun c248 => ?_) (fun c248 => absurd (by decide) c248)
        refine q_ret rfl rfl ?_
        refine ⟨rfl, ?_⟩
        refine q_iconst rfl rfl ?_
        refine q_ist3n rfl rfl rfl rfl ?_
        refine q_iload_n rfl rfl rfl ?_
        refine q_bipush rfl rfl ?_
        refine q_icge rfl rfl (fun c249 => absurd c249 (by decide)) (fun c249 => ?_)
        refine q_aload_n rfl rfl rfl ?_
        refine q_getf rfl rfl (by decide) rfl rfl ?_
        refine q_iload_n rfl rfl rfl ?_
        refine q_aload_n rfl rfl rfl ?_
        refine q_getf rfl rfl (by decide) rfl rfl ?_
        refine q_iload_n rfl rfl rfl ?_
        refine q_iald rfl rfl (by decide) rfl (by decide) (q_tn (z := 10) rfl ?_)
        refine q_iast rfl rfl (by decide) (FW_53 S hW) (by decide) ?_
        refine q_icc3 (z := 1) rfl rfl rfl rfl rfl ?_
        refine q_goto rfl ?_
        refine q_iload_n rfl rfl rfl ?_
        refine q_bipush rfl rfl ?_
        refine q_icge rfl rfl (fun c250 => absurd c250 (by decide)) (fun c250 => ?_)
        refine q_aload_n rfl rfl rfl ?_
        refine q_getf rfl rfl (by decide) rfl rfl ?_
        refine q_iload_n rfl rfl rfl ?_
        refine q_aload_n rfl rfl rfl ?_
        refine q_getf rfl rfl (by decide) rfl rfl ?_
        refine q_iload_n rfl rfl rfl ?_
        refine q_iald rfl rfl (by decide) rfl (by decide) (q_tn (z := 0) rfl ?_)
        refine q_iast rfl rfl (by decide) rfl (by decide) ?_
        refine q_icc3 (z := 2) rfl rfl rfl rfl rfl ?_
        refine q_goto rfl ?_
        refine q_iload_n rfl rfl rfl ?_
        refine q_bipush rfl rfl ?_
        refine q_icge rfl rfl (fun c251 => absurd c251 (by decide)) (fun c251 => ?_)
        refine q_aload_n rfl rfl rfl ?_
        refine q_getf rfl rfl (by decide) rfl rfl ?_
        refine q_iload_n rfl rfl rfl ?_
        refine q_aload_n rfl rfl rfl ?_
        refine q_getf rfl rfl (by decide) rfl rfl ?_
        refine q_iload_n rfl rfl rfl ?_
        refine q_iald rfl rfl (by decide) rfl (by decide) (q_tn (z := 0) rfl ?_)
        refine q_iast rfl rfl (by decide) rfl (by decide) ?_
        refine q_icc3 (z := 3) rfl rfl rfl rfl rfl ?_
        refine q_goto rfl ?_
        refine q_iload_n rfl rfl rfl ?_
        refine q_bipush rfl rfl ?_
        refine q_icge rfl rfl (fun c252 => absurd c252 (by decide)) (fun c252 => ?_)
        refine q_aload_n rfl rfl rfl ?_
        refine q_getf rfl rfl (by decide) rfl rfl ?_
        refine q_iload_n rfl rfl rfl ?_
        refine q_aload_n rfl rfl rfl ?_
        refine q_getf rfl rfl (by decide) rfl rfl ?_
        refine q_iload_n rfl rfl rfl ?_
        refine q_iald rfl rfl (by decide) rfl (by decide) (q_tn (z := 0) rfl ?_)
        refine q_iast rfl rfl (by decide) rfl (by decide) ?_
        refine q_icc3 (z := 4) rfl rfl rfl rfl rfl ?_
        refine q_goto rfl ?_
        refine q_iload_n rfl rfl rfl ?_
        refine q_bipush rfl rfl ?_
        refine q_icge rfl rfl (fun c253 => absurd c253 (by decide)) (fun c253 => ?_)
        refine q_aload_n rfl rfl rfl ?_
        refine q_getf rfl rfl (by decide) rfl rfl ?_
        refine q_iload_n rfl rfl rfl ?_
        refine q_aload_n rfl rfl rfl ?_
        refine q_getf rfl rfl (by decide) rfl rfl ?_
        refine q_iload_n rfl rfl rfl ?_
        refine q_iald rfl rfl (by decide) rfl (by decide) (q_tn (z := 0) rfl ?_)
        refine q_iast rfl rfl (by decide) rfl (by decide) ?_
        refine q_icc3 (z := 5) rfl rfl rfl rfl rfl ?_
        refine q_goto rfl ?_
        refine q_iload_n rfl rfl rfl ?_
        refine q_bipush rfl rfl ?_
        refine q_icge rfl rfl (fun c254 => absurd c254 (by decide)) (fun c254 => ?_)
        refine q_aload_n rfl rfl rfl ?_
        refine q_getf rfl rfl (by decide) rfl rfl ?_
        refine q_iload_n rfl rfl rfl ?_
        refine q_aload_n rfl rfl rfl ?_
        refine q_getf rfl rfl (by decide) rfl rfl ?_
        refine q_iload_n rfl rfl rfl ?_
        refine q_iald rfl rfl (by decide) rfl (by decide) (q_tn (z := 0) rfl ?_)
        refine q_iast rfl rfl (by decide) rfl (by decide) ?_
        refine q_icc3 (z := 6) rfl rfl rfl rfl rfl ?_
        refine q_goto rfl ?_
        refine q_iload_n rfl rfl rfl ?_
        refine q_bipush rfl rfl ?_
        refine q_icge rfl rfl (fun c255 => absurd c255 (by decide)) (fun c255 => ?_)
        refine q_aload_n rfl rfl rfl ?_
        refine q_getf rfl rfl (by decide) rfl rfl ?_
        refine q_iload_n rfl rfl rfl ?_
        refine q_aload_n rfl rfl rfl ?_
        refine q_getf rfl rfl (by decide) rfl rfl ?_
        refine q_iload_n rfl rfl rfl ?_
        refine q_iald rfl rfl (by decide) rfl (by decide) (q_tn (z := 0) rfl ?_)
        refine q_iast rfl rfl (by decide) rfl (by decide) ?_
        refine q_icc3 (z := 7) rfl rfl rfl rfl rfl ?_
        refine q_goto rfl ?_
        refine q_iload_n rfl rfl rfl ?_
        refine q_bipush rfl rfl ?_
        refine q_icge rfl rfl (fun c256 => absurd c256 (by decide)) (fun c256 => ?_)
        refine q_aload_n rfl rfl rfl ?_
        refine q_getf rfl rfl (by decide) rfl rfl ?_
        refine q_iload_n rfl rfl rfl ?_
        refine q_aload_n rfl rfl rfl ?_
        refine q_getf rfl rfl (by decide) rfl rfl ?_
        refine q_iload_n rfl rfl rfl ?_
        refine q_iald rfl rfl (by decide) rfl (by decide) (q_tn (z := 0) rfl ?_)
        refine q_iast rfl rfl (by decide) rfl (by decide) ?_
        refine q_icc3 (z := 8) rfl rfl rfl rfl rfl ?_
        refine q_goto rfl ?_
        refine q_iload_n rfl rfl rfl ?_
        refine q_bipush rfl rfl ?_
        refine q_icge rfl rfl (fun c257 => absurd c257 (by decide)) (fun c257 => ?_)
        refine q_aload_n rfl rfl rfl ?_
        refine q_getf rfl rfl (by decide) rfl rfl ?_
        refine q_iload_n rfl rfl rfl ?_
        refine q_aload_n rfl rfl rfl ?_
        refine q_getf rfl rfl (by decide) rfl rfl ?_
        refine q_iload_n rfl rfl rfl ?_
        refine q_iald rfl rfl (by decide) rfl (by decide) (q_tn (z := 0) rfl ?_)
        refine q_iast rfl rfl (by decide) rfl (by decide) ?_
        refine q_icc3 (z := 9) rfl rfl rfl rfl rfl ?_
        refine q_goto rfl ?_
        refine q_iload_n rfl rfl rfl ?_
        refine q_bipush rfl rfl ?_
        refine q_icge rfl rfl (fun c258 => absurd c258 (by decide)) (fun c258 => ?_)
        refine q_aload_n rfl rfl rfl ?_
        refine q_getf rfl rfl (by decide) rfl rfl ?_
        refine q_iload_n rfl rfl rfl ?_
        refine q_aload_n rfl rfl rfl ?_
        refine q_getf rfl rfl (by decide) rfl rfl ?_
        refine q_iload_n rfl rfl rfl ?_
        refine q_iald rfl rfl (by decide) rfl (by decide) (q_tn (z := 0) rfl ?_)
        refine q_iast rfl rfl (by decide) rfl (by decide) ?_
        refine q_icc3 (z := 10) rfl rfl rfl rfl rfl ?_
        refine q_goto rfl ?_
        refine q_iload_n rfl rfl rfl ?_
        refine q_bipush rfl rfl ?_
        refine q_icge rfl rfl (fun c259 => absurd c259 (by decide)) (fun c259 => ?_)
        refine q_aload_n rfl rfl rfl ?_
        refine q_getf rfl rfl (by decide) rfl rfl ?_
        refine q_iload_n rfl rfl rfl ?_
        refine q_aload_n rfl rfl rfl ?_
        refine q_getf rfl rfl (by decide) rfl rfl ?_
        refine q_iload_n rfl rfl rfl ?_
        refine q_iald rfl rfl (by decide) rfl (by decide) (q_tn (z := 0) rfl ?_)
        refine q_iast rfl rfl (by decide) rfl (by decide) ?_
        refine q_icc3 (z := 11) rfl rfl rfl rfl rfl ?_
        refine q_goto rfl ?_
        refine q_iload_n rfl rfl rfl ?_
        refine q_bipush rfl rfl ?_
        refine q_icge rfl rfl (fun c260 => absurd c260 (by decide)) (fun c260 => ?_)
        refine q_aload_n rfl rfl rfl ?_
        refine q_getf rfl rfl (by decide) rfl rfl ?_
        refine q_iload_n rfl rfl rfl ?_
        refine q_aload_n rfl rfl rfl ?_
        refine q_getf rfl rfl (by decide) rfl rfl ?_
        refine q_iload_n rfl rfl rfl ?_
        refine q_iald rfl rfl (by decide) rfl (by decide) (q_tn (z := 0) rfl ?_)
        refine q_iast rfl rfl (by decide) rfl (by decide) ?_
        refine q_icc3 (z := 12) rfl rfl rfl rfl rfl ?_
        refine q_goto rfl ?_
        refine q_iload_n rfl rfl rfl ?_
        refine q_bipush rfl rfl ?_
        refine q_icge rfl rfl (fun c261 => absurd c261 (by decide)) (fun c261 => ?_)
        refine q_aload_n rfl rfl rfl ?_
        refine q_getf rfl rfl (by decide) rfl rfl ?_
        refine q_iload_n rfl rfl rfl ?_
        refine q_aload_n rfl rfl rfl ?_
        refine q_getf rfl rfl (by decide) rfl rfl ?_
        refine q_iload_n rfl rfl rfl ?_
        refine q_iald rfl rfl (by decide) rfl (by decide) (q_tn (z := 0) rfl ?_)
        refine q_iast rfl rfl (by decide) rfl (by decide) ?_
        refine q_icc3 (z := 13) rfl rfl rfl rfl rfl ?_
        refine q_goto rfl ?_
        refine q_iload_n rfl rfl rfl ?_
        refine q_bipush rfl rfl ?_
        refine q_icge rfl rfl (fun c262 => absurd c262 (by decide)) (fun c262 => ?_)
        refine q_aload_n rfl rfl rfl ?_
        refine q_getf rfl rfl (by decide) rfl rfl ?_
        refine q_iload_n rfl rfl rfl ?_
        refine q_aload_n rfl rfl rfl ?_
        refine q_getf rfl rfl (by decide) rfl rfl ?_
        refine q_iload_n rfl rfl rfl ?_
        refine q_iald rfl rfl (by decide) rfl (by decide) (q_tn (z := 0) rfl ?_)
        refine q_iast rfl rfl (by decide) rfl (by decide) ?_
        refine q_icc3 (z := 14) rfl rfl rfl rfl rfl ?_
        refine q_goto rfl ?_
        refine q_iload_n rfl rfl rfl ?_
        refine q_bipush rfl rfl ?_
        refine q_icge rfl rfl (fun c263 => absurd c263 (by decide)) (fun c263 => ?_)
        refine q_aload_n rfl rfl rfl ?_
        refine q_getf rfl rfl (by decide) rfl rfl ?_
        refine q_iload_n rfl rfl rfl ?_
        refine q_aload_n rfl rfl rfl ?_
        refine q_getf rfl rfl (by decide) rfl rfl ?_
        refine q_iload_n rfl rfl rfl ?_
        refine q_iald rfl rfl (by decide) rfl (by decide) (q_tn (z := 0) rfl ?_)
        refine q_iast rfl rfl (by decide) rfl (by decide) ?_
        refine q_icc3 (z := 15) rfl rfl rfl rfl rfl ?_
        refine q_goto rfl ?_
        refine q_iload_n rfl rfl rfl ?_
        refine q_bipush rfl rfl ?_
        refine q_icge rfl rfl (fun c264 => absurd c264 (by decide)) (fun c264 => ?_)
        refine q_aload_n rfl rfl rfl ?_
        refine q_getf rfl rfl (by decide) rfl rfl ?_
        refine q_iload_n rfl rfl rfl ?_
        refine q_aload_n rfl rfl rfl ?_
        refine q_getf rfl rfl (by decide) rfl rfl ?_
        refine q_iload_n rfl rfl rfl ?_
        refine q_iald rfl rfl (by decide) rfl (by decide) (q_tn (z := 0) rfl ?_)
        refine q_iast rfl rfl (by decide) rfl (by decide) ?_
        refine q_icc3 (z := 16) rfl rfl rfl rfl rfl ?_
        refine q_goto rfl ?_
        refine q_iload_n rfl rfl rfl ?_
        refine q_bipush rfl rfl ?_
        refine q_icge rfl rfl (fun c265 => absurd c265 (by decide)) (fun c265 => ?_)
        refine q_aload_n rfl rfl rfl ?_
        refine q_getf rfl rfl (by decide) rfl rfl ?_
        refine q_iload_n rfl rfl rfl ?_
        refine q_aload_n rfl rfl rfl ?_
        refine q_getf rfl rfl (by decide) rfl rfl ?_
        refine q_iload_n rfl rfl rfl ?_
        refine q_iald rfl rfl (by decide) rfl (by decide) (q_tn (z := 0) rfl ?_)
        refine q_iast rfl rfl (by decide) rfl (by decide) ?_
        refine q_icc3 (z := 17) rfl rfl rfl rfl rfl ?_
        refine q_goto rfl ?_
        refine q_iload_n rfl rfl rfl ?_
        refine q_bipush rfl rfl ?_
        refine q_icge rfl rfl (fun c266 => absurd c266 (by decide)) (fun c266 => ?_)
        refine q_aload_n rfl rfl rfl ?_
        refine q_getf rfl rfl (by decide) rfl rfl ?_
        refine q_iload_n rfl rfl rfl ?_
        refine q_aload_n rfl rfl rfl ?_
        refine q_getf rfl rfl (by decide) rfl rfl ?_
        refine q_iload_n rfl rfl rfl ?_
        refine q_iald rfl rfl (by decide) rfl (by decide) (q_tn (z := 0) rfl ?_)
        refine q_iast rfl rfl (by decide) rfl (by decide) ?_
        refine q_icc3 (z := 18) rfl rfl rfl rfl rfl ?_
        refine q_goto rfl ?_
        refine q_iload_n rfl rfl rfl ?_
        refine q_bipush rfl rfl ?_
        refine q_icge rfl rfl (fun c267 => absurd c267 (by decide)) (fun c267 => ?_)
        refine q_aload_n rfl rfl rfl ?_
        refine q_getf rfl rfl (by decide) rfl rfl ?_
        refine q_iload_n rfl rfl rfl ?_
        refine q_aload_n rfl rfl rfl ?_
        refine q_getf rfl rfl (by decide) rfl rfl ?_
        refine q_iload_n rfl rfl rfl ?_
        refine q_iald rfl rfl (by decide) rfl (by decide) (q_tn (z := 0) rfl ?_)
        refine q_iast rfl rfl (by decide) rfl (by decide) ?_
        refine q_icc3 (z := 19) rfl rfl rfl rfl rfl ?_
        refine q_goto rfl ?_
        refine q_iload_n rfl rfl rfl ?_
        refine q_bipush rfl rfl ?_
        refine q_icge rfl rfl (fun c268 => absurd c268 (by decide)) (fun c268 => ?_)
        refine q_aload_n rfl rfl rfl ?_
        refine q_getf rfl rfl (by decide) rfl rfl ?_
        refine q_iload_n rfl rfl rfl ?_
        refine q_aload_n rfl rfl rfl ?_
        refine q_getf rfl rfl (by decide) rfl rfl ?_
        refine q_iload_n rfl rfl rfl ?_
        refine q_iald rfl rfl (by decide) rfl (by decide) (q_tn (z := 0) rfl ?_)
        refine q_iast rfl rfl (by decide) rfl (by decide) ?_
        refine q_icc3 (z := 20) rfl rfl rfl rfl rfl ?_
        refine q_goto rfl ?_
        refine q_iload_n rfl rfl rfl ?_
        refine q_bipush rfl rfl ?_
        refine q_icge rfl rfl (fun c269 => ?_) (fun c269 => absurd (by decide) c269)
        refine q_aload_n rfl rfl rfl ?_
        refine q_iload_n rfl rfl rfl ?_
        refine q_iconst rfl rfl ?_
        refine q_iconst rfl rfl ?_
        refine q_nV3 rfl rfl (Or.inl rfl) rfl rfl rfl (by decide) rfl ⟨rfl, rfl⟩ rfl ?_
        change PQ _ _ _ mm_X12_put 0 [.ref 46, .int 0, .int (-1), .int (-1), pm_un, pm_un, pm_un] [] _ _ 0 0 _
        refine q_aload_n rfl rfl rfl ?_
        refine q_getf rfl rfl (by decide) rfl rfl ?_
        refine q_iload_n rfl rfl rfl ?_
        refine q_iald rfl rfl (by decide) rfl (by decide) (q_tn (z := 0) rfl ?_)
        refine q_ist4 rfl rfl rfl rfl ?_
        refine q_iload rfl rfl rfl ?_
        refine q_sipush rfl rfl ?_
        refine q_icne rfl rfl (fun c270 => absurd c270 (by decide)) (fun c270 => ?_)
        refine q_sipush rfl rfl ?_
        refine q_iload_n rfl rfl rfl ?_
        refine q_imul rfl rfl (q_tn (z := 0) rfl ?_)
        refine q_iload rfl rfl rfl ?_
        refine q_iadd rfl rfl (q_tn (z := 0) rfl ?_)
        refine q_ist5 rfl rfl rfl rfl ?_
        refine q_iconst rfl rfl ?_
        refine q_ist6 rfl rfl rfl rfl ?_
        refine q_iload rfl rfl rfl ?_
        refine q_bipush rfl rfl ?_
        refine q_icge rfl rfl (fun c271 => absurd c271 (by decide)) (fun c271 => ?_)
        refine q_aload_n rfl rfl rfl ?_
        refine q_getf rfl rfl (by decide) rfl rfl ?_
        refine q_bipush rfl rfl ?_
        refine q_iload rfl rfl rfl ?_
        refine q_imul rfl rfl (q_tn (z := 0) rfl ?_)
        refine q_iload rfl rfl rfl ?_
        refine q_iadd rfl rfl (q_tn (z := 0) rfl ?_)
        refine q_aload_n rfl rfl rfl ?_
        refine q_getf rfl rfl (by decide) rfl rfl ?_
        refine q_iload rfl rfl rfl ?_
        refine q_iald rfl rfl (by decide) rfl (by decide) (q_tn (z := 10) rfl ?_)
        refine q_iast rfl rfl (by decide) (FW_55 S hW) (by decide) ?_
        refine q_icc6 (z := 1) rfl rfl rfl rfl rfl ?_
        refine q_goto rfl ?_
        refine q_iload rfl rfl rfl ?_
        refine q_bipush rfl rfl ?_
        refine q_icge rfl rfl (fun c272 => absurd c272 (by decide)) (fun c272 => ?_)
        refine q_aload_n rfl rfl rfl ?_
        refine q_getf rfl rfl (by decide) rfl rfl ?_
        refine q_bipush rfl rfl ?_
        refine q_iload rfl rfl rfl ?_
        refine q_imul rfl rfl (q_tn (z := 0) rfl ?_)
        refine q_iload rfl rfl rfl ?_
        refine q_iadd rfl rfl (q_tn (z := 1) rfl ?_)
        refine q_aload_n rfl rfl rfl ?_
        refine q_getf rfl rfl (by decide) rfl rfl ?_
        refine q_iload rfl rfl rfl ?_
        refine q_iald rfl rfl (by decide) rfl (by decide) (q_tn (z := 0) rfl ?_)
        refine q_iast rfl rfl (by decide) rfl (by decide) ?_
        refine q_icc6 (z := 2) rfl rfl rfl rfl rfl ?_
        refine q_goto rfl ?_
        refine q_iload rfl rfl rfl ?_
        refine q_bipush rfl rfl ?_
        refine q_icge rfl rfl (fun c273 => absurd c273 (by decide)) (fun c273 => ?_)
        refine q_aload_n rfl rfl rfl ?_
        refine q_getf rfl rfl (by decide) rfl rfl ?_
        refine q_bipush rfl rfl ?_
        refine q_iload rfl rfl rfl ?_
        refine q_imul rfl rfl (q_tn (z := 0) rfl ?_)
        refine q_iload rfl rfl rfl ?_
        refine q_iadd rfl rfl (q_tn (z := 2) rfl ?_)
        refine q_aload_n rfl rfl rfl ?_
        refine q_getf rfl rfl (by decide) rfl rfl ?_
        refine q_iload rfl rfl rfl ?_
        refine q_iald rfl rfl (by decide) rfl (by decide) (q_tn (z := 0) rfl ?_)
        refine q_iast rfl rfl (by decide) rfl (by decide) ?_
        refine q_icc6 (z := 3) rfl rfl rfl rfl rfl ?_
        refine q_goto rfl ?_
        refine q_iload rfl rfl rfl ?_
        refine q_bipush rfl rfl ?_
        refine q_icge rfl rfl (fun c274 => absurd c274 (by decide)) (fun c274 => ?_)
        refine q_aload_n rfl rfl rfl ?_
        refine q_getf rfl rfl (by decide) rfl rfl ?_
        refine q_bipush rfl rfl ?_
        refine q_iload rfl rfl rfl ?_
        refine q_imul rfl rfl (q_tn (z := 0) rfl ?_)
        refine q_iload rfl rfl rfl ?_
        refine q_iadd rfl rfl (q_tn (z := 3) rfl ?_)
        refine q_aload_n rfl rfl rfl ?_
        refine q_getf rfl rfl (by decide) rfl rfl ?_
        refine q_iload rfl rfl rfl ?_
        refine q_iald rfl rfl (by decide) rfl (by decide) (q_tn (z := 0) rfl ?_)
        refine q_iast rfl rfl (by decide) rfl (by decide) ?_
        refine q_icc6 (z := 4) rfl rfl rfl rfl rfl ?_
        refine q_goto rfl ?_
        refine q_iload rfl rfl rfl ?_
        refine q_bipush rfl rfl ?_
        refine q_icge rfl rfl (fun c275 => absurd c275 (by decide)) (fun c275 => ?_)
        refine q_aload_n rfl rfl rfl ?_
        refine q_getf rfl rfl (by decide) rfl rfl ?_
        refine q_bipush rfl rfl ?_
        refine q_iload rfl rfl rfl ?_
        refine q_imul rfl rfl (q_tn (z := 0) rfl ?_)
        refine q_iload rfl rfl rfl ?_
        refine q_iadd rfl rfl (q_tn (z := 4) rfl ?_)
        refine q_aload_n rfl rfl rfl ?_
        refine q_getf rfl rfl (by decide) rfl rfl ?_
        refine q_iload rfl rfl rfl ?_
        refine q_iald rfl rfl (by decide) rfl (by decide) (q_tn (z := 0) rfl ?_)
        refine q_iast rfl rfl (by decide) rfl (by decide) ?_
        refine q_icc6 (z := 5) rfl rfl rfl rfl rfl ?_
        refine q_goto rfl ?_
        refine q_iload rfl rfl rfl ?_
        refine q_bipush rfl rfl ?_
        refine q_icge rfl rfl (fun c276 => absurd c276 (by decide)) (fun c276 => ?_)
        refine q_aload_n rfl rfl rfl ?_
        refine q_getf rfl rfl (by decide) rfl rfl ?_
        refine q_bipush rfl rfl ?_
        refine q_iload rfl rfl rfl ?_
        refine q_imul rfl rfl (q_tn (z := 0) rfl ?_)
        refine q_iload rfl rfl rfl ?_
        refine q_iadd rfl rfl (q_tn (z := 5) rfl ?_)
        refine q_aload_n rfl rfl rfl ?_
        refine q_getf rfl rfl (by decide) rfl rfl ?_
        refine q_iload rfl rfl rfl ?_
        refine q_iald rfl rfl (by decide) rfl (by decide) (q_tn (z := 0) rfl ?_)
        refine q_iast rfl rfl (by decide) rfl (by decide) ?_
        refine q_icc6 (z := 6) rfl rfl rfl rfl rfl ?_
        refine q_goto rfl ?_
        refine q_iload rfl rfl rfl ?_
        refine q_bipush rfl rfl ?_
        refine q_icge rfl rfl (fun c277 => absurd c277 (by decide)) (fun c277 => ?_)
        refine q_aload_n rfl rfl rfl ?_
        refine q_getf rfl rfl (by decide) rfl rfl ?_
        refine q_bipush rfl rfl ?_
        refine q_iload rfl rfl rfl ?_
        refine q_imul rfl rfl (q_tn (z := 0) rfl ?_)
        refine q_iload rfl rfl rfl ?_
        refine q_iadd rfl rfl (q_tn (z := 6) rfl ?_)
        refine q_aload_n rfl rfl rfl ?_
        refine q_getf rfl rfl (by decide) rfl rfl ?_
        refine q_iload rfl rfl rfl ?_
        refine q_iald rfl rfl (by decide) rfl (by decide) (q_tn (z := 0) rfl ?_)
        refine q_iast rfl rfl (by decide) rfl (by decide) ?_
        refine q_icc6 (z := 7) rfl rfl rfl rfl rfl ?_
        refine q_goto rfl ?_
        refine q_iload rfl rfl rfl ?_
        refine q_bipush rfl rfl ?_
        refine q_icge rfl rfl (fun c278 => absurd c278 (by decide)) (fun c278 => ?_)
        refine q_aload_n rfl rfl rfl ?_
        refine q_getf rfl rfl (by decide) rfl rfl ?_
        refine q_bipush rfl rfl ?_
        refine q_iload rfl rfl rfl ?_
        refine q_imul rfl rfl (q_tn (z := 0) rfl ?_)
        refine q_iload rfl rfl rfl ?_
        refine q_iadd rfl rfl (q_tn (z := 7) rfl ?_)
        refine q_aload_n rfl rfl rfl ?_
        refine q_getf rfl rfl (by decide) rfl rfl ?_
        refine q_iload rfl rfl rfl ?_
        refine q_iald rfl rfl (by decide) rfl (by decide) (q_tn (z := 0) rfl ?_)
        refine q_iast rfl rfl (by decide) rfl (by decide) ?_
        refine q_icc6 (z := 8) rfl rfl rfl rfl rfl ?_
        refine q_goto rfl ?_
        refine q_iload rfl rfl rfl ?_
        refine q_bipush rfl rfl ?_
        refine q_icge rfl rfl (fun c279 => absurd c279 (by decide)) (fun c279 => ?_)
        refine q_aload_n rfl rfl rfl ?_
        refine q_getf rfl rfl (by decide) rfl rfl ?_
        refine q_bipush rfl rfl ?_
        refine q_iload rfl rfl rfl ?_
        refine q_imul rfl rfl (q_tn (z := 0) rfl ?_)
        refine q_iload rfl rfl rfl ?_
        refine q_iadd rfl rfl (q_tn (z := 8) rfl ?_)
        refine q_aload_n rfl rfl rfl ?_
        refine q_getf rfl rfl (by decide) rfl rfl ?_
        refine q_iload rfl rfl rfl ?_
        refine q_iald rfl rfl (by decide) rfl (by decide) (q_tn (z := 0) rfl ?_)
        refine q_iast rfl rfl (by decide) rfl (by decide) ?_
        refine q_icc6 (z := 9) rfl rfl rfl rfl rfl ?_
        refine q_goto rfl ?_
        refine q_iload rfl rfl rfl ?_
        refine q_bipush rfl rfl ?_
        refine q_icge rfl rfl (fun c280 => absurd c280 (by decide)) (fun c280 => ?_)
        refine q_aload_n rfl rfl rfl ?_
        refine q_getf rfl rfl (by decide) rfl rfl ?_
        refine q_bipush rfl rfl ?_
        refine q_iload rfl rfl rfl ?_
        refine q_imul rfl rfl (q_tn (z := 0) rfl ?_)
        refine q_iload rfl rfl rfl ?_
        refine q_iadd rfl rfl (q_tn (z := 9) rfl ?_)
        refine q_aload_n rfl rfl rfl ?_
        refine q_getf rfl rfl (by decide) rfl rfl ?_
        refine q_iload rfl rfl rfl ?_
        refine q_iald rfl rfl (by decide) rfl (by decide) (q_tn (z := 0) rfl ?_)
        refine q_iast rfl rfl (by decide) rfl (by decide) ?_
        refine q_icc6 (z := 10) rfl rfl rfl rfl rfl ?_
        refine q_goto rfl ?_
        refine q_iload rfl rfl rfl ?_
        refine q_bipush rfl rfl ?_
        refine q_icge rfl rfl (fun c281 => absurd c281 (by decide)) (fun c281 => ?_)
        refine q_aload_n rfl rfl rfl ?_
        refine q_getf rfl rfl (by decide) rfl rfl ?_
        refine q_bipush rfl rfl ?_
        refine q_iload rfl rfl rfl ?_
        refine q_imul rfl rfl (q_tn (z := 0) rfl ?_)
        refine q_iload rfl rfl rfl ?_
        refine q_iadd rfl rfl (q_tn (z := 10) rfl ?_)
        refine q_aload_n rfl rfl rfl ?_
        refine q_getf rfl rfl (by decide) rfl rfl ?_
        refine q_iload rfl rfl rfl ?_
        refine q_iald rfl rfl (by decide) rfl (by decide) (q_tn (z := 0) rfl ?_)
        refine q_iast rfl rfl (by decide) rfl (by decide) ?_
        refine q_icc6 (z := 11) rfl rfl rfl rfl rfl ?_
        refine q_goto rfl ?_
        refine q_iload rfl rfl rfl ?_
        refine q_bipush rfl rfl ?_
        refine q_icge rfl rfl (fun c282 => absurd c282 (by decide)) (fun c282 => ?_)
        refine q_aload_n rfl rfl rfl ?_
        refine q_getf rfl rfl (by decide) rfl rfl ?_
        refine q_bipush rfl rfl ?_
        refine q_iload rfl rfl rfl ?_
        refine q_imul rfl rfl (q_tn (z := 0) rfl ?_)
        refine q_iload rfl rfl rfl ?_
        refine q_iadd rfl rfl (q_tn (z := 11) rfl ?_)
        refine q_aload_n rfl rfl rfl ?_
        refine q_getf rfl rfl (by decide) rfl rfl ?_
        refine q_iload rfl rfl rfl ?_
        refine q_iald rfl rfl (by decide) rfl (by decide) (q_tn (z := 0) rfl ?_)
        refine q_iast rfl rfl (by decide) rfl (by decide) ?_
        refine q_icc6 (z := 12) rfl rfl rfl rfl rfl ?_
        refine q_goto rfl ?_
        refine q_iload rfl rfl rfl ?_
        refine q_bipush rfl rfl ?_
        refine q_icge rfl rfl (fun c283 => absurd c283 (by decide)) (fun c283 => ?_)
        refine q_aload_n rfl rfl rfl ?_
        refine q_getf rfl rfl (by decide) rfl rfl ?_
        refine q_bipush rfl rfl ?_
        refine q_iload rfl rfl rfl ?_
        refine q_imul rfl rfl (q_tn (z := 0) rfl ?_)
        refine q_iload rfl rfl rfl ?_
        refine q_iadd rfl rfl (q_tn (z := 12) rfl ?_)
        refine q_aload_n rfl rfl rfl ?_
        refine q_getf rfl rfl (by decide) rfl rfl ?_
        refine q_iload rfl rfl rfl ?_
        refine q_iald rfl rfl (by decide) rfl (by decide) (q_tn (z := 0) rfl ?_)
        refine q_iast rfl rfl (by decide) rfl (by decide) ?_
        refine q_icc6 (z := 13) rfl rfl rfl rfl rfl ?_
        refine q_goto rfl ?_
        refine q_iload rfl rfl rfl ?_
        refine q_bipush rfl rfl ?_
        refine q_icge rfl rfl (fun c284 => absurd c284 (by decide)) (fun c284 => ?_)
        refine q_aload_n rfl rfl rfl ?_
        refine q_getf rfl rfl (by decide) rfl rfl ?_
        refine q_bipush rfl rfl ?_
        refine q_iload rfl rfl rfl ?_
        refine q_imul rfl rfl (q_tn (z := 0) rfl ?_)
        refine q_iload rfl rfl rfl ?_
        refine q_iadd rfl rfl (q_tn (z := 13) rfl ?_)
        refine q_aload_n rfl rfl rfl ?_
        refine q_getf rfl rfl (by decide) rfl rfl ?_
        refine q_iload rfl rfl rfl ?_
        refine q_iald rfl rfl (by decide) rfl (by decide) (q_tn (z := 0) rfl ?_)
        refine q_iast rfl rfl (by decide) rfl (by decide) ?_
        refine q_icc6 (z := 14) rfl rfl rfl rfl rfl ?_
        refine q_goto rfl ?_
        refine q_iload rfl rfl rfl ?_
        refine q_bipush rfl rfl ?_
        refine q_icge rfl rfl (fun c285 => absurd c285 (by decide)) (fun c285 => ?_)
        refine q_aload_n rfl rfl rfl ?_
        refine q_getf rfl rfl (by decide) rfl rfl ?_
        refine q_bipush rfl rfl ?_
        refine q_iload rfl rfl rfl ?_
        refine q_imul rfl rfl (q_tn (z := 0) rfl ?_)
        refine q_iload rfl rfl rfl ?_
        refine q_iadd rfl rfl (q_tn (z := 14) rfl ?_)
        refine q_aload_n rfl rfl rfl ?_
        refine q_getf rfl rfl (by decide) rfl rfl ?_
        refine q_iload rfl rfl rfl ?_
        refine q_iald rfl rfl (by decide) rfl (by decide) (q_tn (z := 0) rfl ?_)
        refine q_iast rfl rfl (by decide) rfl (by decide) ?_
        refine q_icc6 (z := 15) rfl rfl rfl rfl rfl ?_
        refine q_goto rfl ?_
        refine q_iload rfl rfl rfl ?_
        refine q_bipush rfl rfl ?_
        refine q_icge rfl rfl (fun c286 => absurd c286 (by decide)) (fun c286 => ?_)
        refine q_aload_n rfl rfl rfl ?_
        refine q_getf rfl rfl (by decide) rfl rfl ?_
        refine q_bipush rfl rfl ?_
        refine q_iload rfl rfl rfl ?_
        refine q_imul rfl rfl (q_tn (z := 0) rfl ?_)
        refine q_iload rfl rfl rfl ?_
        refine q_iadd rfl rfl (q_tn (z := 15) rfl ?_)
        refine q_aload_n rfl rfl rfl ?_
        refine q_getf rfl rfl (by decide) rfl rfl ?_
        refine q_iload rfl rfl rfl ?_
        refine q_iald rfl rfl (by decide) rfl (by decide) (q_tn (z := 0) rfl ?_)
        refine q_iast rfl rfl (by decide) rfl (by decide) ?_
        refine q_icc6 (z := 16) rfl rfl rfl rfl rfl ?_
        refine q_goto rfl ?_
        refine q_iload rfl rfl rfl ?_
        refine q_bipush rfl rfl ?_
        refine q_icge rfl rfl (fun c287 => absurd c287 (by decide)) (fun c287 => ?_)
        refine q_aload_n rfl rfl rfl ?_
        refine q_getf rfl rfl (by decide) rfl rfl ?_
        refine q_bipush rfl rfl ?_
        refine q_iload rfl rfl rfl ?_
        refine q_imul rfl rfl (q_tn (z := 0) rfl ?_)
        refine q_iload rfl rfl rfl ?_
        refine q_iadd rfl rfl (q_tn (z := 16) rfl ?_)
        refine q_aload_n rfl rfl rfl ?_
        refine q_getf rfl rfl (by decide) rfl rfl ?_
        refine q_iload rfl rfl rfl ?_
        refine q_iald rfl rfl (by decide) rfl (by decide) (q_tn (z := 0) rfl ?_)
        refine q_iast rfl rfl (by decide) rfl (by decide) ?_
        refine q_icc6 (z := 17) rfl rfl rfl rfl rfl ?_
        refine q_goto rfl ?_
        refine q_iload rfl rfl rfl ?_
        refine q_bipush rfl rfl ?_
        refine q_icge rfl rfl (fun c288 => absurd c288 (by decide)) (fun c288 => ?_)
        refine q_aload_n rfl rfl rfl ?_
        refine q_getf rfl rfl (by decide) rfl rfl ?_
        refine q_bipush rfl rfl ?_
        refine q_iload rfl rfl rfl ?_
        refine q_imul rfl rfl (q_tn (z := 0) rfl ?_)
        refine q_iload rfl rfl rfl ?_
        refine q_iadd rfl rfl (q_tn (z := 17) rfl ?_)
        refine q_aload_n rfl rfl rfl ?_
        refine q_getf rfl rfl (by decide) rfl rfl ?_
        refine q_iload rfl rfl rfl ?_
        refine q_iald rfl rfl (by decide) rfl (by decide) (q_tn (z := 0) rfl ?_)
        refine q_iast rfl rfl (by decide) rfl (by decide) ?_
        refine q_icc6 (z := 18) rfl rfl rfl rfl rfl ?_
        refine q_goto rfl ?_
        refine q_iload rfl rfl rfl ?_
        refine q_bipush rfl rfl ?_
        refine q_icge rfl rfl (fun c289 => absurd c289 (by decide)) (fun c289 => ?_)
        refine q_aload_n rfl rfl rfl ?_
        refine q_getf rfl rfl (by decide) rfl rfl ?_
        refine q_bipush rfl rfl ?_
        refine q_iload rfl rfl rfl ?_
        refine q_imul rfl rfl (q_tn (z := 0) rfl ?_)
        refine q_iload rfl rfl rfl ?_
        refine q_iadd rfl rfl (q_tn (z := 18) rfl ?_)
        refine q_aload_n rfl rfl rfl ?_
        refine q_getf rfl rfl (by decide) rfl rfl ?_
        refine q_iload rfl rfl rfl ?_
        refine q_iald rfl rfl (by decide) rfl (by decide) (q_tn (z := 0) rfl ?_)
        refine q_iast rfl rfl (by decide) rfl (by decide) ?_
        refine q_icc6 (z := 19) rfl rfl rfl rfl rfl ?_
        refine q_goto rfl ?_
        refine q_iload rfl rfl rfl ?_
        refine q_bipush rfl rfl ?_
        refine q_icge rfl rfl (fun c290 => absurd c290 (by decide)) (fun c290 => ?_)
        refine q_aload_n rfl rfl rfl ?_
        refine q_getf rfl rfl (by decide) rfl rfl ?_
        refine q_bipush rfl rfl ?_
        refine q_iload rfl rfl rfl ?_
        refine q_imul rfl rfl (q_tn (z := 0) rfl ?_)
        refine q_iload rfl rfl rfl ?_
        refine q_iadd rfl rfl (q_tn (z := 19) rfl ?_)
        refine q_aload_n rfl rfl rfl ?_
        refine q_getf rfl rfl (by decide) rfl rfl ?_
        refine q_iload rfl rfl rfl ?_
        refine q_iald rfl rfl (by decide) rfl (by decide) (q_tn (z := 0) rfl ?_)
        refine q_iast rfl rfl (by decide) rfl (by decide) ?_
        refine q_icc6 (z := 20) rfl rfl rfl rfl rfl ?_
        refine q_goto rfl ?_
        refine q_iload rfl rfl rfl ?_
        refine q_bipush rfl rfl ?_
        refine q_icge rfl rfl (fun c291 => ?_) (fun c291 => absurd (by decide) c291)
        refine q_aload_n rfl rfl rfl ?_
        refine q_getf rfl rfl (by decide) rfl rfl ?_
        refine q_iload rfl rfl rfl ?_
        refine q_iload_n rfl rfl rfl ?_
        refine q_iast rfl rfl (by decide) (FW_56 S hW) (by decide) ?_
        refine q_aload_n rfl rfl rfl ?_
        refine q_getf rfl rfl (by decide) rfl rfl ?_
        refine q_iload rfl rfl rfl ?_
        refine q_iload_n rfl rfl rfl ?_
        refine q_iast rfl rfl (by decide) (FW_57 S hW) (by decide) ?_
        refine q_aload_n rfl rfl rfl ?_
        refine q_iload_n rfl rfl rfl ?_
        refine q_nV1 rfl rfl (Or.inl rfl) rfl rfl rfl (by decide) rfl ⟨rfl, rfl⟩ rfl ?_
        change PQ _ _ _ mm_X12_rest 0 [.ref 46, .int 0, pm_un, pm_un] [] _ _ 0 0 _
        refine q_bipush rfl rfl ?_
        refine q_ist2n rfl rfl rfl rfl ?_
        refine q_iconst rfl rfl ?_
        refine q_ist3n rfl rfl rfl rfl ?_
        refine q_iload_n rfl rfl rfl ?_
        refine q_bipush rfl rfl ?_
        refine q_icge rfl rfl (fun c292 => absurd c292 (by decide)) (fun c292 => ?_)
        refine q_bipush rfl rfl ?_
        refine q_iload_n rfl rfl rfl ?_
        refine q_imul rfl rfl (q_tn (z := 527) rfl ?_)
        refine q_aload_n rfl rfl rfl ?_
        refine q_getf rfl rfl (by decide) rfl rfl ?_
        refine q_iload_n rfl rfl rfl ?_
        refine q_iald rfl rfl (by decide) rfl (by decide) (q_tn (z := 10) rfl ?_)
        refine q_iadd rfl rfl (q_tn (z := 537) rfl ?_)
        refine q_ist2n rfl rfl rfl rfl ?_
        refine q_icc3 (z := 1) rfl rfl rfl rfl rfl ?_
        refine q_goto rfl ?_
        refine q_iload_n rfl rfl rfl ?_
        refine q_bipush rfl rfl ?_
        refine q_icge rfl rfl (fun c293 => absurd c293 (by decide)) (fun c293 => ?_)
        refine q_bipush rfl rfl ?_
        refine q_iload_n rfl rfl rfl ?_
        refine q_imul rfl rfl (q_tn (z := 16647) rfl ?_)
        refine q_aload_n rfl rfl rfl ?_
        refine q_getf rfl rfl (by decide) rfl rfl ?_
        refine q_iload_n rfl rfl rfl ?_
        refine q_iald rfl rfl (by decide) rfl (by decide) (q_tn (z := 0) rfl ?_)
        refine q_iadd rfl rfl (q_tn (z := 16647) rfl ?_)
        refine q_ist2n rfl rfl rfl rfl ?_
        refine q_icc3 (z := 2) rfl rfl rfl rfl rfl ?_
        refine q_goto rfl ?_
        refine q_iload_n rfl rfl rfl ?_
        refine q_bipush rfl rfl ?_
        refine q_icge rfl rfl (fun c294 => absurd c294 (by decide)) (fun c294 => ?_)
        refine q_bipush rfl rfl ?_
        refine q_iload_n rfl rfl rfl ?_
        refine q_imul rfl rfl (q_tn (z := 516057) rfl ?_)
        refine q_aload_n rfl rfl rfl ?_
        refine q_getf rfl rfl (by decide) rfl rfl ?_
        refine q_iload_n rfl rfl rfl ?_
        refine q_iald rfl rfl (by decide) rfl (by decide) (q_tn (z := 0) rfl ?_)
        refine q_iadd rfl rfl (q_tn (z := 516057) rfl ?_)
        refine q_ist2n rfl rfl rfl rfl ?_
        refine q_icc3 (z := 3) rfl rfl rfl rfl rfl ?_
        refine q_goto rfl ?_
        refine q_iload_n rfl rfl rfl ?_
        refine q_bipush rfl rfl ?_
        refine q_icge rfl rfl (fun c295 => absurd c295 (by decide)) (fun c295 => ?_)
        refine q_bipush rfl rfl ?_
        refine q_iload_n rfl rfl rfl ?_
        refine q_imul rfl rfl (q_tn (z := 15997767) rfl ?_)
        refine q_aload_n rfl rfl rfl ?_
        refine q_getf rfl rfl (by decide) rfl rfl ?_
        refine q_iload_n rfl rfl rfl ?_
        refine q_iald rfl rfl (by decide) rfl (by decide) (q_tn (z := 0) rfl ?_)
        refine q_iadd rfl rfl (q_tn (z := 15997767) rfl ?_)
        refine q_ist2n rfl rfl rfl rfl ?_
        refine q_icc3 (z := 4) rfl rfl rfl rfl rfl ?_
        refine q_goto rfl ?_
        refine q_iload_n rfl rfl rfl ?_
        refine q_bipush rfl rfl ?_
        refine q_icge rfl rfl (fun c296 => absurd c296 (by decide)) (fun c296 => ?_)
        refine q_bipush rfl rfl ?_
        refine q_iload_n rfl rfl rfl ?_
        refine q_imul rfl rfl (q_tn (z := 495930777) rfl ?_)
        refine q_aload_n rfl rfl rfl ?_
        refine q_getf rfl rfl (by decide) rfl rfl ?_
        refine q_iload_n rfl rfl rfl ?_
        refine q_iald rfl rfl (by decide) rfl (by decide) (q_tn (z := 0) rfl ?_)
        refine q_iadd rfl rfl (q_tn (z := 495930777) rfl ?_)
        refine q_ist2n rfl rfl rfl rfl ?_
        refine q_icc3 (z := 5) rfl rfl rfl rfl rfl ?_
        refine q_goto rfl ?_
        refine q_iload_n rfl rfl rfl ?_
        refine q_bipush rfl rfl ?_
        refine q_icge rfl rfl (fun c297 => absurd c297 (by decide)) (fun c297 => ?_)
        refine q_bipush rfl rfl ?_
        refine q_iload_n rfl rfl rfl ?_
        refine q_imul rfl rfl (q_tn (z := (-1806015097)) rfl ?_)
        refine q_aload_n rfl rfl rfl ?_
        refine q_getf rfl rfl (by decide) rfl rfl ?_
        refine q_iload_n rfl rfl rfl ?_
        refine q_iald rfl rfl (by decide) rfl (by decide) (q_tn (z := 0) rfl ?_)
        refine q_iadd rfl rfl (q_tn (z := (-1806015097)) rfl ?_)
        refine q_ist2n rfl rfl rfl rfl ?_
        refine q_icc3 (z := 6) rfl rfl rfl rfl rfl ?_
        refine q_goto rfl ?_
        refine q_iload_n rfl rfl rfl ?_
        refine q_bipush rfl rfl ?_
        refine q_icge rfl rfl (fun c298 => absurd c298 (by decide)) (fun c298 => ?_)
        refine q_bipush rfl rfl ?_
        refine q_iload_n rfl rfl rfl ?_
        refine q_imul rfl rfl (q_tn (z := (-151893159)) rfl ?_)
        refine q_aload_n rfl rfl rfl ?_
        refine q_getf rfl rfl (by decide) rfl rfl ?_
        refine q_iload_n rfl rfl rfl ?_
        refine q_iald rfl rfl (by decide) rfl (by decide) (q_tn (z := 0) rfl ?_)
        refine q_iadd rfl rfl (q_tn (z := (-151893159)) rfl ?_)
        refine q_ist2n rfl rfl rfl rfl ?_
        refine q_icc3 (z := 7) rfl rfl rfl rfl rfl ?_
        refine q_goto rfl ?_
        refine q_iload_n rfl rfl rfl ?_
        refine q_bipush rfl rfl ?_
        refine q_icge rfl rfl (fun c299 => absurd c299 (by decide)) (fun c299 => ?_)
        refine q_bipush rfl rfl ?_
        refine q_iload_n rfl rfl rfl ?_
        refine q_imul rfl rfl (q_tn (z := (-413720633)) rfl ?_)
        refine q_aload_n rfl rfl rfl ?_
        refine q_getf rfl rfl (by decide) rfl rfl ?_
        refine q_iload_n rfl rfl rfl ?_
        refine q_iald rfl rfl (by decide) rfl (by decide) (q_tn (z := 0) rfl ?_)
        refine q_iadd rfl rfl (q_tn (z := (-413720633)) rfl ?_)
        refine q_ist2n rfl rfl rfl rfl ?_
        refine q_icc3 (z := 8) rfl rfl rfl rfl rfl ?_
        refine q_goto rfl ?_
        refine q_iload_n rfl rfl rfl ?_
        refine q_bipush rfl rfl ?_
        refine q_icge rfl rfl (fun c300 => absurd c300 (by decide)) (fun c300 => ?_)
        refine q_bipush rfl rfl ?_
        refine q_iload_n rfl rfl rfl ?_
        refine q_imul rfl rfl (q_tn (z := 59562265) rfl ?_)
        refine q_aload_n rfl rfl rfl ?_
        refine q_getf rfl rfl (by decide) rfl rfl ?_
        refine q_iload_n rfl rfl rfl ?_
        refine q_iald rfl rfl (by decide) rfl (by decide) (q_tn (z := 0) rfl ?_)
        refine q_iadd rfl rfl (q_tn (z := 59562265) rfl ?_)
        refine q_ist2n rfl rfl rfl rfl ?_
        refine q_icc3 (z := 9) rfl rfl rfl rfl rfl ?_
        refine q_goto rfl ?_
        refine q_iload_n rfl rfl rfl ?_
        refine q_bipush rfl rfl ?_
        refine q_icge rfl rfl (fun c301 => absurd c301 (by decide)) (fun c301 => ?_)
        refine q_bipush rfl rfl ?_
        refine q_iload_n rfl rfl rfl ?_
        refine q_imul rfl rfl (q_tn (z := 1846430215) rfl ?_)
        refine q_aload_n rfl rfl rfl ?_
        refine q_getf rfl rfl (by decide) rfl rfl ?_
        refine q_iload_n rfl rfl rfl ?_
        refine q_iald rfl rfl (by decide) rfl (by decide) (q_tn (z := 0) rfl ?_)
        refine q_iadd rfl rfl (q_tn (z := 1846430215) rfl ?_)
        refine q_ist2n rfl rfl rfl rfl ?_
        refine q_icc3 (z := 10) rfl rfl rfl rfl rfl ?_
        refine q_goto rfl ?_
        refine q_iload_n rfl rfl rfl ?_
        refine q_bipush rfl rfl ?_
        refine q_icge rfl rfl (fun c302 => absurd c302 (by decide)) (fun c302 => ?_)
        refine q_bipush rfl rfl ?_
        refine q_iload_n rfl rfl rfl ?_
        refine q_imul rfl rfl (q_tn (z := 1404761817) rfl ?_)
        refine q_aload_n rfl rfl rfl ?_
        refine q_getf rfl rfl (by decide) rfl rfl ?_
        refine q_iload_n rfl rfl rfl ?_
        refine q_iald rfl rfl (by decide) rfl (by decide) (q_tn (z := 0) rfl ?_)
        refine q_iadd rfl rfl (q_tn (z := 1404761817) rfl ?_)
        refine q_ist2n rfl rfl rfl rfl ?_
        refine q_icc3 (z := 11) rfl rfl rfl rfl rfl ?_
        refine q_goto rfl ?_
        refine q_iload_n rfl rfl rfl ?_
        refine q_bipush rfl rfl ?_
        refine q_icge rfl rfl (fun c303 => absurd c303 (by decide)) (fun c303 => ?_)
        refine q_bipush rfl rfl ?_
        refine q_iload_n rfl rfl rfl ?_
        refine q_imul rfl rfl (q_tn (z := 597943367) rfl ?_)
        refine q_aload_n rfl rfl rfl ?_
        refine q_getf rfl rfl (by decide) rfl rfl ?_
        refine q_iload_n rfl rfl rfl ?_
        refine q_iald rfl rfl (by decide) rfl (by decide) (q_tn (z := 0) rfl ?_)
        refine q_iadd rfl rfl (q_tn (z := 597943367) rfl ?_)
        refine q_ist2n rfl rfl rfl rfl ?_
        refine q_icc3 (z := 12) rfl rfl rfl rfl rfl ?_
        refine q_goto rfl ?_
        refine q_iload_n rfl rfl rfl ?_
        refine q_bipush rfl rfl ?_
        refine q_icge rfl rfl (fun c304 => absurd c304 (by decide)) (fun c304 => ?_)
        refine q_bipush rfl rfl ?_
        refine q_iload_n rfl rfl rfl ?_
        refine q_imul rfl rfl (q_tn (z := 1356375193) rfl ?_)
        refine q_aload_n rfl rfl rfl ?_
        refine q_getf rfl rfl (by decide) rfl rfl ?_
        refine q_iload_n rfl rfl rfl ?_
        refine q_iald rfl rfl (by decide) rfl (by decide) (q_tn (z := 0) rfl ?_)
        refine q_iadd rfl rfl (q_tn (z := 1356375193) rfl ?_)
        refine q_ist2n rfl rfl rfl rfl ?_
        refine q_icc3 (z := 13) rfl rfl rfl rfl rfl ?_
        refine q_goto rfl ?_
        refine q_iload_n rfl rfl rfl ?_
        as_aux_lemma =>
          refine q_bipush rfl rfl ?_
          refine q_icge rfl rfl (fun c305 => absurd c305 (by decide)) (fun c305 => ?_)
          refine q_bipush rfl rfl ?_
          refine q_iload_n rfl rfl rfl ?_
          refine q_imul rfl rfl (q_tn (z := (-902041977)) rfl ?_)
          refine q_aload_n rfl rfl rfl ?_
          refine q_getf rfl rfl (by decide) rfl rfl ?_
          refine q_iload_n rfl rfl rfl ?_
          refine q_iald rfl rfl (by decide) rfl (by decide) (q_tn (z := 0) rfl ?_)
          refine q_iadd rfl rfl (q_tn (z := (-902041977)) rfl ?_)
          refine q_ist2n rfl rfl rfl rfl ?_
          refine q_icc3 (z := 14) rfl rfl rfl rfl rfl ?_
          refine q_goto rfl ?_
          refine q_iload_n rfl rfl rfl ?_
          refine q_bipush rfl rfl ?_
          refine q_icge rfl rfl (fun c306 => absurd c306 (by decide)) (fun c306 => ?_)
          refine q_bipush rfl rfl ?_
          refine q_iload_n rfl rfl rfl ?_
          refine q_imul rfl rfl (q_tn (z := 2101469785) rfl ?_)
          refine q_aload_n rfl rfl rfl ?_
          refine q_getf rfl rfl (by decide) rfl rfl ?_
          refine q_iload_n rfl rfl rfl ?_
          refine q_iald rfl rfl (by decide) rfl (by decide) (q_tn (z := 0) rfl ?_)
          refine q_iadd rfl rfl (q_tn (z := 2101469785) rfl ?_)
          refine q_ist2n rfl rfl rfl rfl ?_
          refine q_icc3 (z := 15) rfl rfl rfl rfl rfl ?_
          refine q_goto rfl ?_
          refine q_iload_n rfl rfl rfl ?_
          refine q_bipush rfl rfl ?_
          refine q_icge rfl rfl (fun c307 => absurd c307 (by decide)) (fun c307 => ?_)
          refine q_bipush rfl rfl ?_
          refine q_iload_n rfl rfl rfl ?_
          refine q_imul rfl rfl (q_tn (z := 721053895) rfl ?_)
          refine q_aload_n rfl rfl rfl ?_
          refine q_getf rfl rfl (by decide) rfl rfl ?_
          refine q_iload_n rfl rfl rfl ?_
          refine q_iald rfl rfl (by decide) rfl (by decide) (q_tn (z := 0) rfl ?_)
          refine q_iadd rfl rfl (q_tn (z := 721053895) rfl ?_)
          refine q_ist2n rfl rfl rfl rfl ?_
          refine q_icc3 (z := 16) rfl rfl rfl rfl rfl ?_
          refine q_goto rfl ?_
          refine q_iload_n rfl rfl rfl ?_
          refine q_bipush rfl rfl ?_
          refine q_icge rfl rfl (fun c308 => absurd c308 (by decide)) (fun c308 => ?_)
          refine q_bipush rfl rfl ?_
          refine q_iload_n rfl rfl rfl ?_
          refine q_imul rfl rfl (q_tn (z := 877834265) rfl ?_)
          refine q_aload_n rfl rfl rfl ?_
          refine q_getf rfl rfl (by decide) rfl rfl ?_
          refine q_iload_n rfl rfl rfl ?_
          refine q_iald rfl rfl (by decide) rfl (by decide) (q_tn (z := 0) rfl ?_)
          refine q_iadd rfl rfl (q_tn (z := 877834265) rfl ?_)
          refine q_ist2n rfl rfl rfl rfl ?_
          refine q_icc3 (z := 17) rfl rfl rfl rfl rfl ?_
          refine q_goto rfl ?_
          refine q_iload_n rfl rfl rfl ?_
          refine q_bipush rfl rfl ?_
          refine q_icge rfl rfl (fun c309 => absurd c309 (by decide)) (fun c309 => ?_)
          refine q_bipush rfl rfl ?_
          refine q_iload_n rfl rfl rfl ?_
          refine q_imul rfl rfl (q_tn (z := 1443058439) rfl ?_)
          refine q_aload_n rfl rfl rfl ?_
          refine q_getf rfl rfl (by decide) rfl rfl ?_
          refine q_iload_n rfl rfl rfl ?_
          refine q_iald rfl rfl (by decide) rfl (by decide) (q_tn (z := 0) rfl ?_)
          refine q_iadd rfl rfl (q_tn (z := 1443058439) rfl ?_)
          refine q_ist2n rfl rfl rfl rfl ?_
          refine q_icc3 (z := 18) rfl rfl rfl rfl rfl ?_
          refine q_goto rfl ?_
          refine q_iload_n rfl rfl rfl ?_
          refine q_bipush rfl rfl ?_
          refine q_icge rfl rfl (fun c310 => absurd c310 (by decide)) (fun c310 => ?_)
          refine q_bipush rfl rfl ?_
          refine q_iload_n rfl rfl rfl ?_
          refine q_imul rfl rfl (q_tn (z := 1785138649) rfl ?_)
          refine q_aload_n rfl rfl rfl ?_
          refine q_getf rfl rfl (by decide) rfl rfl ?_
          refine q_iload_n rfl rfl rfl ?_
          refine q_iald rfl rfl (by decide) rfl (by decide) (q_tn (z := 0) rfl ?_)
          refine q_iadd rfl rfl (q_tn (z := 1785138649) rfl ?_)
          refine q_ist2n rfl rfl rfl rfl ?_
          refine q_icc3 (z := 19) rfl rfl rfl rfl rfl ?_
          refine q_goto rfl ?_
          refine q_iload_n rfl rfl rfl ?_
          refine q_bipush rfl rfl ?_
          refine q_icge rfl rfl (fun c311 => absurd c311 (by decide)) (fun c311 => ?_)
          refine q_bipush rfl rfl ?_
          refine q_iload_n rfl rfl rfl ?_
          refine q_imul rfl rfl (q_tn (z := (-495276729)) rfl ?_)
          refine q_aload_n rfl rfl rfl ?_
          refine q_getf rfl rfl (by decide) rfl rfl ?_
          refine q_iload_n rfl rfl rfl ?_
          refine q_iald rfl rfl (by decide) rfl (by decide) (q_tn (z := 0) rfl ?_)
          refine q_iadd rfl rfl (q_tn (z := (-495276729)) rfl ?_)
          refine q_ist2n rfl rfl rfl rfl ?_
          refine q_icc3 (z := 20) rfl rfl rfl rfl rfl ?_
          refine q_goto rfl ?_
          refine q_iload_n rfl rfl rfl ?_
          refine q_bipush rfl rfl ?_
          refine q_icge rfl rfl (fun c312 => ?_) (fun c312 => absurd (by decide) c312)
          refine q_sipush rfl rfl ?_
          refine q_iload_n rfl rfl rfl ?_
          refine q_imul rfl rfl (q_tn (z := 0) rfl ?_)
          refine q_iload_n rfl rfl rfl ?_
          refine q_iload_n rfl rfl rfl ?_
          refine q_bipush rfl rfl ?_
          refine q_iushr rfl rfl (q_tn (z := 463829) rfl ?_)
          refine q_ixor rfl rfl (q_tn (z := (-495075694)) rfl ?_)
          refine q_sipush rfl rfl ?_
          refine q_irem rfl rfl (by decide) (q_tn (z := (-366)) rfl ?_)
          refine q_iload_n rfl rfl rfl ?_
          refine q_iload_n rfl rfl rfl ?_
          refine q_bipush rfl rfl ?_
          refine q_iushr rfl rfl (q_tn (z := 463829) rfl ?_)
          refine q_ixor rfl rfl (q_tn (z := (-495075694)) rfl ?_)
          refine q_sipush rfl rfl ?_
          refine q_irem rfl rfl (by decide) (q_tn (z := (-366)) rfl ?_)
          refine q_ifge rfl rfl (fun c313 => absurd c313 (by decide)) (fun c313 => ?_)
          refine q_iconst rfl rfl ?_
          refine q_goto rfl ?_
          refine q_imul rfl rfl (q_tn (z := 366) rfl ?_)
          refine q_iadd rfl rfl (q_tn (z := 366) rfl ?_)
          refine q_iret rfl rfl trivial ?_
          refine ⟨_, rfl, ?_⟩
          refine q_ist6 rfl rfl rfl rfl ?_
          refine q_aload_n rfl rfl rfl ?_
          refine q_getf rfl rfl (by decide) rfl rfl ?_
          refine q_iload rfl rfl rfl ?_
          refine q_aload_n rfl rfl rfl ?_
          refine q_getf rfl rfl (by decide) rfl rfl ?_
          refine q_iload rfl rfl rfl ?_
          refine q_iald rfl rfl (by decide) rfl (by decide) (q_tn (z := (-1)) rfl ?_)
          refine q_iast rfl rfl (by decide) (FW_58 S hW) (by decide) ?_
          refine q_aload_n rfl rfl rfl ?_
          refine q_getf rfl rfl (by decide) rfl rfl ?_
          refine q_iload rfl rfl rfl ?_
          refine q_iload rfl rfl rfl ?_
          refine q_iast rfl rfl (by decide) rfl (by decide) ?_
          refine q_aload_n rfl rfl rfl ?_
          refine q_getf rfl rfl (by decide) rfl rfl ?_
          refine q_iload_n rfl rfl rfl ?_
          refine q_dup2 rfl rfl ?_
          refine q_iald rfl rfl (by decide) rfl (by decide) (q_tn (z := 0) rfl ?_)
          refine q_iconst rfl rfl ?_
          refine q_iadd rfl rfl (q_tn (z := 1) rfl ?_)
          refine q_iast rfl rfl (by decide) rfl (by decide) ?_
          refine q_iload rfl rfl rfl ?_
          refine q_iret rfl rfl trivial ?_
          refine ⟨_, rfl, ?_⟩
          refine q_ist3n rfl rfl rfl rfl ?_
          refine q_iconst rfl rfl ?_
          refine q_ist4 rfl rfl rfl rfl ?_
          refine q_iload rfl rfl rfl ?_
          refine q_aload_n rfl rfl rfl ?_
          refine q_getf rfl rfl (by decide) rfl rfl ?_
          refine q_iload_n rfl rfl rfl ?_
          refine q_iald rfl rfl (by decide) rfl (by decide) (q_tn (z := 1) rfl ?_)
          refine q_icge rfl rfl (fun c314 => absurd c314 (by decide)) (fun c314 => ?_)
          refine q_iconst rfl rfl ?_
          refine q_ist5 rfl rfl rfl rfl ?_
          refine q_iload rfl rfl rfl ?_
          refine q_iconst rfl rfl ?_
          refine q_icge rfl rfl (fun c315 => absurd c315 (by decide)) (fun c315 => ?_)
          refine q_iconst rfl rfl ?_
          refine q_sipush rfl rfl ?_
          refine q_iload_n rfl rfl rfl ?_
          refine q_imul rfl rfl (q_tn (z := 0) rfl ?_)
          refine q_iload rfl rfl rfl ?_
          refine q_iadd rfl rfl (q_tn (z := 0) rfl ?_)
          refine q_imul rfl rfl (q_tn (z := 0) rfl ?_)
          refine q_iload rfl rfl rfl ?_
          refine q_iadd rfl rfl (q_tn (z := 0) rfl ?_)
          refine q_ist6 rfl rfl rfl rfl ?_
          refine q_aload_n rfl rfl rfl ?_
          refine q_getf rfl rfl (by decide) rfl rfl ?_
          refine q_iload rfl rfl rfl ?_
          refine q_iconst rfl rfl ?_
          refine q_iast rfl rfl (by decide) (FW_59 S hW) (by decide) ?_
          refine q_aload_n rfl rfl rfl ?_
          refine q_iload_n rfl rfl rfl ?_
          refine q_iload rfl rfl rfl ?_
          refine q_cV2v rfl rfl (Or.inl rfl) rfl rfl rfl (by decide) rfl ⟨rfl, rfl⟩ rfl (fun K' hK' => l_sa (R := 0) (by decide) rfl (by decide) rfl rfl rfl rfl rfl hK') ?_
          refine q_iload rfl rfl rfl ?_
          refine q_aload_n rfl rfl rfl ?_
          refine q_getf rfl rfl (by decide) rfl rfl ?_
          refine q_icge rfl rfl (fun c316 => absurd c316 (by decide)) (fun c316 => ?_)
          refine q_aload_n rfl rfl rfl ?_
          refine q_iload rfl rfl rfl ?_
          refine q_iload_n rfl rfl rfl ?_
          refine q_nV2 rfl rfl (Or.inl rfl) rfl rfl rfl (by decide) rfl ⟨rfl, rfl⟩ rfl ?_
          change PQ _ _ _ mm_X12_maySteps 0 [.ref 46, .int 0, .int 0, pm_un, pm_un, pm_un] [] _ _ 0 0 _
          refine q_aload_n rfl rfl rfl ?_
          refine q_iload_n rfl rfl rfl ?_
          refine q_iload_n rfl rfl rfl ?_
          refine q_nV2 rfl rfl (Or.inl rfl) rfl rfl rfl (by decide) rfl ⟨rfl, rfl⟩ rfl ?_
          change PQ _ _ _ mm_X12_canStep 0 [.ref 46, .int 0, .int 0, pm_un] [] _ _ 0 0 _
          refine q_aload_n rfl rfl rfl ?_
          refine q_iload_n rfl rfl rfl ?_
          refine q_nV1 rfl rfl (Or.inl rfl) rfl rfl rfl (by decide) rfl ⟨rfl, rfl⟩ rfl ?_
          change PQ _ _ _ mm_X12_isOver 0 [.ref 46, .int 0] [] _ _ 0 0 _
          refine q_aload_n rfl rfl rfl ?_
          refine q_getf rfl rfl (by decide) rfl rfl ?_
          refine q_iconst rfl rfl ?_
          refine q_iload_n rfl rfl rfl ?_
          refine q_imul rfl rfl (q_tn (z := 0) rfl ?_)
          refine q_iald rfl rfl (by decide) rfl (by decide) (q_tn (z := 10) rfl ?_)
          refine q_bipush rfl rfl ?_
          refine q_iclt rfl rfl (fun c317 => absurd c317 (by decide)) (fun c317 => ?_)
          refine q_iconst rfl rfl ?_
          refine q_goto rfl ?_
          refine q_iret rfl rfl rfl ?_
          refine ⟨_, rfl, ?_⟩
          refine q_ifeq rfl rfl (fun c318 => absurd c318 (by decide)) (fun c318 => ?_)
          refine q_iconst rfl rfl ?_
          refine q_iret rfl rfl rfl ?_
          refine ⟨_, rfl, ?_⟩
          refine q_ifne rfl rfl (fun c319 => ?_) (fun c319 => absurd (by decide) c319)
          refine q_iconst rfl rfl ?_
          refine q_iret rfl rfl rfl ?_
          refine ⟨_, rfl, ?_⟩
          refine q_ifne rfl rfl (fun c320 => ?_) (fun c320 => absurd (by decide) c320)
          refine q_goto rfl ?_
          refine q_icc5 (z := 1) rfl rfl rfl rfl rfl ?_
          refine q_goto rfl ?_
          refine q_iload rfl rfl rfl ?_
          refine q_iconst rfl rfl ?_
          refine q_icge rfl rfl (fun c321 => absurd c321 (by decide)) (fun c321 => ?_)
          refine q_iconst rfl rfl ?_
          refine q_sipush rfl rfl ?_
          refine q_iload_n rfl rfl rfl ?_
          refine q_imul rfl rfl (q_tn (z := 0) rfl ?_)
          refine q_iload rfl rfl rfl ?_
          refine q_iadd rfl rfl (q_tn (z := 0) rfl ?_)
          refine q_imul rfl rfl (q_tn (z := 0) rfl ?_)
          refine q_iload rfl rfl rfl ?_
          refine q_iadd rfl rfl (q_tn (z := 1) rfl ?_)
          refine q_ist6 rfl rfl rfl rfl ?_
          refine q_aload_n rfl rfl rfl ?_
          refine q_getf rfl rfl (by decide) rfl rfl ?_
          refine q_iload rfl rfl rfl ?_
          refine q_iconst rfl rfl ?_
          refine q_iast rfl rfl (by decide) rfl (by decide) ?_
          refine q_aload_n rfl rfl rfl ?_
          refine q_iload_n rfl rfl rfl ?_
          refine q_iload rfl rfl rfl ?_
          refine q_cV2v rfl rfl (Or.inl rfl) rfl rfl rfl (by decide) rfl ⟨rfl, rfl⟩ rfl (fun K' hK' => l_sa (R := 0) (by decide) rfl (by decide) rfl rfl rfl rfl rfl hK') ?_
          refine q_iload rfl rfl rfl ?_
          refine q_aload_n rfl rfl rfl ?_
          refine q_getf rfl rfl (by decide) rfl rfl ?_
          refine q_icge rfl rfl (fun c322 => ?_) (fun c322 => absurd (by decide) c322)
          refine q_icc5 (z := 2) rfl rfl rfl rfl rfl ?_
          refine q_goto rfl ?_
          refine q_iload rfl rfl rfl ?_
          refine q_iconst rfl rfl ?_
          refine q_icge rfl rfl (fun c323 => absurd c323 (by decide)) (fun c323 => ?_)
          refine q_iconst rfl rfl ?_
          refine q_sipush rfl rfl ?_
          refine q_iload_n rfl rfl rfl ?_
          refine q_imul rfl rfl (q_tn (z := 0) rfl ?_)
          refine q_iload rfl rfl rfl ?_
          refine q_iadd rfl rfl (q_tn (z := 0) rfl ?_)
          refine q_imul rfl rfl (q_tn (z := 0) rfl ?_)
          refine q_iload rfl rfl rfl ?_
          refine q_iadd rfl rfl (q_tn (z := 2) rfl ?_)
          refine q_ist6 rfl rfl rfl rfl ?_
          refine q_aload_n rfl rfl rfl ?_
          refine q_getf rfl rfl (by decide) rfl rfl ?_
          refine q_iload rfl rfl rfl ?_
          refine q_iconst rfl rfl ?_
          refine q_iast rfl rfl (by decide) rfl (by decide) ?_
          refine q_aload_n rfl rfl rfl ?_
          refine q_iload_n rfl rfl rfl ?_
          refine q_iload rfl rfl rfl ?_
          refine q_cV2v rfl rfl (Or.inl rfl) rfl rfl rfl (by decide) rfl ⟨rfl, rfl⟩ rfl (fun K' hK' => l_sa (R := 0) (by decide) rfl (by decide) rfl rfl rfl rfl rfl hK') ?_
          refine q_iload rfl rfl rfl ?_
          refine q_aload_n rfl rfl rfl ?_
          refine q_getf rfl rfl (by decide) rfl rfl ?_
          refine q_icge rfl rfl (fun c324 => ?_) (fun c324 => absurd (by decide) c324)
          refine q_icc5 (z := 3) rfl rfl rfl rfl rfl ?_
          refine q_goto rfl ?_
          refine q_iload rfl rfl rfl ?_
          refine q_iconst rfl rfl ?_
          refine q_icge rfl rfl (fun c325 => ?_) (fun c325 => absurd (by decide) c325)
          refine q_icc4 (z := 1) rfl rfl rfl rfl rfl ?_
          refine q_goto rfl ?_
          refine q_iload rfl rfl rfl ?_
          refine q_aload_n rfl rfl rfl ?_
          refine q_getf rfl rfl (by decide) rfl rfl ?_
          refine q_iload_n rfl rfl rfl ?_
          refine q_iald rfl rfl (by decide) rfl (by decide) (q_tn (z := 1) rfl ?_)
          refine q_icge rfl rfl (fun c326 => ?_) (fun c326 => absurd (by decide) c326)
          refine q_iconst rfl rfl ?_
          refine q_iret rfl rfl rfl ?_
          refine ⟨_, rfl, ?_⟩
          refine q_ifeq rfl rfl (fun c327 => absurd c327 (by decide)) (fun c327 => ?_)
          refine q_iconst rfl rfl ?_
          refine q_goto rfl ?_
          refine q_iast rfl rfl (by decide) (FW_62 S hW) (by decide) ?_
          refine q_iload_n rfl rfl rfl ?_
          refine q_ifne rfl rfl (fun c328 => ?_) (fun c328 => absurd (by decide) c328)
          refine q_aload_n rfl rfl rfl ?_
          refine q_iconst rfl rfl ?_
          refine q_putf rfl rfl (by decide) rfl (by decide) rfl rfl ?_
          refine q_aload_n rfl rfl rfl ?_
          refine q_getf rfl rfl (by decide) rfl rfl ?_
          refine q_iload_n rfl rfl rfl ?_
          refine q_aload_n rfl rfl rfl ?_
          refine q_getf rfl rfl (by decide) rfl rfl ?_
          refine q_iload_n rfl rfl rfl ?_
          refine q_iald rfl rfl (by decide) rfl (by decide) (q_tn (z := 1) rfl ?_)
          refine q_iast rfl rfl (by decide) (FW_63 S hW) (by decide) ?_
          refine q_iconst rfl rfl ?_
          refine q_ist3n rfl rfl rfl rfl ?_
          refine q_iload_n rfl rfl rfl ?_
          refine q_iconst rfl rfl ?_
          refine q_icge rfl rfl (fun c329 => absurd c329 (by decide)) (fun c329 => ?_)
          refine q_aload_n rfl rfl rfl ?_
          refine q_getf rfl rfl (by decide) rfl rfl ?_
          refine q_iconst rfl rfl ?_
          refine q_iload_n rfl rfl rfl ?_
          refine q_imul rfl rfl (q_tn (z := 0) rfl ?_)
          refine q_iload_n rfl rfl rfl ?_
          refine q_iadd rfl rfl (q_tn (z := 0) rfl ?_)
          refine q_iconst rfl rfl ?_
          refine q_iast rfl rfl (by decide) (FW_64 S hW) (by decide) ?_
          refine q_icc3 (z := 1) rfl rfl rfl rfl rfl ?_
          refine q_goto rfl ?_
          refine q_iload_n rfl rfl rfl ?_
          refine q_iconst rfl rfl ?_
          refine q_icge rfl rfl (fun c330 => absurd c330 (by decide)) (fun c330 => ?_)
          refine q_aload_n rfl rfl rfl ?_
          refine q_getf rfl rfl (by decide) rfl rfl ?_
          refine q_iconst rfl rfl ?_
          refine q_iload_n rfl rfl rfl ?_
          refine q_imul rfl rfl (q_tn (z := 0) rfl ?_)
          refine q_iload_n rfl rfl rfl ?_
          refine q_iadd rfl rfl (q_tn (z := 1) rfl ?_)
          refine q_iconst rfl rfl ?_
          refine q_iast rfl rfl (by decide) rfl (by decide) ?_
          refine q_icc3 (z := 2) rfl rfl rfl rfl rfl ?_
          refine q_goto rfl ?_
          refine q_iload_n rfl rfl rfl ?_
          refine q_iconst rfl rfl ?_
          refine q_icge rfl rfl (fun c331 => absurd c331 (by decide)) (fun c331 => ?_)
          refine q_aload_n rfl rfl rfl ?_
          refine q_getf rfl rfl (by decide) rfl rfl ?_
          refine q_iconst rfl rfl ?_
          refine q_iload_n rfl rfl rfl ?_
          refine q_imul rfl rfl (q_tn (z := 0) rfl ?_)
          refine q_iload_n rfl rfl rfl ?_
          refine q_iadd rfl rfl (q_tn (z := 2) rfl ?_)
          refine q_iconst rfl rfl ?_
          refine q_iast rfl rfl (by decide) rfl (by decide) ?_
          refine q_icc3 (z := 3) rfl rfl rfl rfl rfl ?_
          refine q_goto rfl ?_
          refine q_iload_n rfl rfl rfl ?_
          refine q_iconst rfl rfl ?_
          refine q_icge rfl rfl (fun c332 => absurd c332 (by decide)) (fun c332 => ?_)
          refine q_aload_n rfl rfl rfl ?_
          refine q_getf rfl rfl (by decide) rfl rfl ?_
          refine q_iconst rfl rfl ?_
          refine q_iload_n rfl rfl rfl ?_
          refine q_imul rfl rfl (q_tn (z := 0) rfl ?_)
          refine q_iload_n rfl rfl rfl ?_
          refine q_iadd rfl rfl (q_tn (z := 3) rfl ?_)
          refine q_iconst rfl rfl ?_
          refine q_iast rfl rfl (by decide) rfl (by decide) ?_
          refine q_icc3 (z := 4) rfl rfl rfl rfl rfl ?_
          refine q_goto rfl ?_
          refine q_iload_n rfl rfl rfl ?_
          refine q_iconst rfl rfl ?_
          refine q_icge rfl rfl (fun c333 => ?_) (fun c333 => absurd (by decide) c333)
          refine q_iconst rfl rfl ?_
          refine q_ist3n rfl rfl rfl rfl ?_
          refine q_iload_n rfl rfl rfl ?_
          refine q_aload_n rfl rfl rfl ?_
          refine q_getf rfl rfl (by decide) rfl rfl ?_
          refine q_iload_n rfl rfl rfl ?_
          refine q_iald rfl rfl (by decide) rfl (by decide) (q_tn (z := 1) rfl ?_)
          refine q_icge rfl rfl (fun c334 => absurd c334 (by decide)) (fun c334 => ?_)
          refine q_aload_n rfl rfl rfl ?_
          refine q_iload_n rfl rfl rfl ?_
          refine q_iload_n rfl rfl rfl ?_
          refine q_cV2v rfl rfl (Or.inl rfl) rfl rfl rfl (by decide) rfl ⟨rfl, rfl⟩ rfl (fun K' hK' => l_sa (R := 0) (by decide) rfl (by decide) rfl rfl rfl rfl rfl hK') ?_
          refine q_aload_n rfl rfl rfl ?_
          refine q_nV0 rfl rfl (Or.inl rfl) rfl rfl rfl (by decide) rfl ⟨rfl, rfl⟩ rfl ?_
          change PQ _ _ _ mm_X12_isEnd 0 [.ref 46, pm_un, pm_un] [] _ _ 0 0 _
          refine q_iconst rfl rfl ?_
          refine q_ist1n rfl rfl rfl rfl ?_
          refine q_iconst rfl rfl ?_
          refine q_ist2n rfl rfl rfl rfl ?_
          refine q_iload_n rfl rfl rfl ?_
          refine q_aload_n rfl rfl rfl ?_
          refine q_getf rfl rfl (by decide) rfl rfl ?_
          refine q_icge rfl rfl (fun c335 => absurd c335 (by decide)) (fun c335 => ?_)
          refine q_iload_n rfl rfl rfl ?_
          refine q_ifeq rfl rfl (fun c336 => absurd c336 (by decide)) (fun c336 => ?_)
          refine q_aload_n rfl rfl rfl ?_
          refine q_iload_n rfl rfl rfl ?_
          refine q_nV1 rfl rfl (Or.inl rfl) rfl rfl rfl (by decide) rfl ⟨rfl, rfl⟩ rfl ?_
          change PQ _ _ _ mm_X12_isOver 0 [.ref 46, .int 0] [] _ _ 0 0 _
          refine q_aload_n rfl rfl rfl ?_
          refine q_getf rfl rfl (by decide) rfl rfl ?_
          refine q_iconst rfl rfl ?_
          refine q_iload_n rfl rfl rfl ?_
          refine q_imul rfl rfl (q_tn (z := 0) rfl ?_)
          refine q_iald rfl rfl (by decide) rfl (by decide) (q_tn (z := 10) rfl ?_)
          refine q_bipush rfl rfl ?_
          refine q_iclt rfl rfl (fun c337 => absurd c337 (by decide)) (fun c337 => ?_)
          refine q_iconst rfl rfl ?_
          refine q_goto rfl ?_
          refine q_iret rfl rfl rfl ?_
          refine ⟨_, rfl, ?_⟩
          refine q_ifeq rfl rfl (fun c338 => absurd c338 (by decide)) (fun c338 => ?_)
          refine q_iconst rfl rfl ?_
          refine q_goto rfl ?_
          refine q_ist1n rfl rfl rfl rfl ?_
          refine q_icc2 (z := 1) rfl rfl rfl rfl rfl ?_
          refine q_goto rfl ?_
          refine q_iload_n rfl rfl rfl ?_
          refine q_aload_n rfl rfl rfl ?_
          refine q_getf rfl rfl (by decide) rfl rfl ?_
          refine q_icge rfl rfl (fun c339 => ?_) (fun c339 => absurd (by decide) c339)
          refine q_iload_n rfl rfl rfl ?_
          refine q_iret rfl rfl rfl ?_
          refine ⟨_, rfl, ?_⟩
          refine q_ifne rfl rfl (fun c340 => absurd c340 (by decide)) (fun c340 => ?_)
          refine q_iconst rfl rfl ?_
          refine q_ist4 rfl rfl rfl rfl ?_
          refine q_iload rfl rfl rfl ?_
          refine q_iconst rfl rfl ?_
          refine q_icge rfl rfl (fun c341 => absurd c341 (by decide)) (fun c341 => ?_)
          refine q_aload_n rfl rfl rfl ?_
          refine q_getf rfl rfl (by decide) rfl rfl ?_
          refine q_iconst rfl rfl ?_
          refine q_iload_n rfl rfl rfl ?_
          refine q_imul rfl rfl (q_tn (z := 0) rfl ?_)
          refine q_iload rfl rfl rfl ?_
          refine q_iadd rfl rfl (q_tn (z := 0) rfl ?_)
          refine q_dup2 rfl rfl ?_
          refine q_iald rfl rfl (by decide) rfl (by decide) (q_tn (z := 0) rfl ?_)
          refine q_iconst rfl rfl ?_
          refine q_aload_n rfl rfl rfl ?_
          refine q_getf rfl rfl (by decide) rfl rfl ?_
          refine q_bipush rfl rfl ?_
          refine q_iload rfl rfl rfl ?_
          refine q_iadd rfl rfl (q_tn (z := 12) rfl ?_)
          refine q_iald rfl rfl (by decide) rfl (by decide) (q_tn (z := 0) rfl ?_)
          refine q_ishl rfl rfl (q_tn (z := 1) rfl ?_)
          refine q_ior rfl rfl (q_tn (z := 1) rfl ?_)
          refine q_iast rfl rfl (by decide) rfl (by decide) ?_
          refine q_icc4 (z := 1) rfl rfl rfl rfl rfl ?_
          refine q_goto rfl ?_
          refine q_iload rfl rfl rfl ?_
          refine q_iconst rfl rfl ?_
          refine q_icge rfl rfl (fun c342 => absurd c342 (by decide)) (fun c342 => ?_)
          refine q_aload_n rfl rfl rfl ?_
          refine q_getf rfl rfl (by decide) rfl rfl ?_
          refine q_iconst rfl rfl ?_
          refine q_iload_n rfl rfl rfl ?_
          refine q_imul rfl rfl (q_tn (z := 0) rfl ?_)
          refine q_iload rfl rfl rfl ?_
          refine q_iadd rfl rfl (q_tn (z := 1) rfl ?_)
          refine q_dup2 rfl rfl ?_
          refine q_iald rfl rfl (by decide) rfl (by decide) (q_tn (z := 0) rfl ?_)
          refine q_iconst rfl rfl ?_
          refine q_aload_n rfl rfl rfl ?_
          refine q_getf rfl rfl (by decide) rfl rfl ?_
          refine q_bipush rfl rfl ?_
          refine q_iload rfl rfl rfl ?_
          refine q_iadd rfl rfl (q_tn (z := 13) rfl ?_)
          refine q_iald rfl rfl (by decide) rfl (by decide) (q_tn (z := 0) rfl ?_)
          refine q_ishl rfl rfl (q_tn (z := 1) rfl ?_)
          refine q_ior rfl rfl (q_tn (z := 1) rfl ?_)
          refine q_iast rfl rfl (by decide) rfl (by decide) ?_
          refine q_icc4 (z := 2) rfl rfl rfl rfl rfl ?_
          refine q_goto rfl ?_
          refine q_iload rfl rfl rfl ?_
          refine q_iconst rfl rfl ?_
          refine q_icge rfl rfl (fun c343 => absurd c343 (by decide)) (fun c343 => ?_)
          refine q_aload_n rfl rfl rfl ?_
          refine q_getf rfl rfl (by decide) rfl rfl ?_
          refine q_iconst rfl rfl ?_
          refine q_iload_n rfl rfl rfl ?_
          refine q_imul rfl rfl (q_tn (z := 0) rfl ?_)
          refine q_iload rfl rfl rfl ?_
          refine q_iadd rfl rfl (q_tn (z := 2) rfl ?_)
          refine q_dup2 rfl rfl ?_
          refine q_iald rfl rfl (by decide) rfl (by decide) (q_tn (z := 0) rfl ?_)
          refine q_iconst rfl rfl ?_
          refine q_aload_n rfl rfl rfl ?_
          refine q_getf rfl rfl (by decide) rfl rfl ?_
          refine q_bipush rfl rfl ?_
          refine q_iload rfl rfl rfl ?_
          refine q_iadd rfl rfl (q_tn (z := 14) rfl ?_)
          refine q_iald rfl rfl (by decide) rfl (by decide) (q_tn (z := 0) rfl ?_)
          refine q_ishl rfl rfl (q_tn (z := 1) rfl ?_)
          refine q_ior rfl rfl (q_tn (z := 1) rfl ?_)
          refine q_iast rfl rfl (by decide) rfl (by decide) ?_
          refine q_icc4 (z := 3) rfl rfl rfl rfl rfl ?_
          refine q_goto rfl ?_
          refine q_iload rfl rfl rfl ?_
          refine q_iconst rfl rfl ?_
          refine q_icge rfl rfl (fun c344 => absurd c344 (by decide)) (fun c344 => ?_)
          refine q_aload_n rfl rfl rfl ?_
          refine q_getf rfl rfl (by decide) rfl rfl ?_
          refine q_iconst rfl rfl ?_
          refine q_iload_n rfl rfl rfl ?_
          refine q_imul rfl rfl (q_tn (z := 0) rfl ?_)
          refine q_iload rfl rfl rfl ?_
          refine q_iadd rfl rfl (q_tn (z := 3) rfl ?_)
          refine q_dup2 rfl rfl ?_
          refine q_iald rfl rfl (by decide) rfl (by decide) (q_tn (z := 0) rfl ?_)
          refine q_iconst rfl rfl ?_
          refine q_aload_n rfl rfl rfl ?_
          refine q_getf rfl rfl (by decide) rfl rfl ?_
          refine q_bipush rfl rfl ?_
          refine q_iload rfl rfl rfl ?_
          refine q_iadd rfl rfl (q_tn (z := 15) rfl ?_)
          refine q_iald rfl rfl (by decide) rfl (by decide) (q_tn (z := 0) rfl ?_)
          refine q_ishl rfl rfl (q_tn (z := 1) rfl ?_)
          refine q_ior rfl rfl (q_tn (z := 1) rfl ?_)
          refine q_iast rfl rfl (by decide) rfl (by decide) ?_
          refine q_icc4 (z := 4) rfl rfl rfl rfl rfl ?_
          refine q_goto rfl ?_
          refine q_iload rfl rfl rfl ?_
          refine q_iconst rfl rfl ?_
          refine q_icge rfl rfl (fun c345 => ?_) (fun c345 => absurd (by decide) c345)
          refine q_icc3 (z := 1) rfl rfl rfl rfl rfl ?_
          refine q_goto rfl ?_
          refine q_iload_n rfl rfl rfl ?_
          refine q_aload_n rfl rfl rfl ?_
          refine q_getf rfl rfl (by decide) rfl rfl ?_
          refine q_iload_n rfl rfl rfl ?_
          refine q_iald rfl rfl (by decide) rfl (by decide) (q_tn (z := 1) rfl ?_)
          refine q_icge rfl rfl (fun c346 => ?_) (fun c346 => absurd (by decide) c346)
          refine q_aload_n rfl rfl rfl ?_
          refine q_getf rfl rfl (by decide) rfl rfl ?_
          refine q_iload_n rfl rfl rfl ?_
          refine q_iald rfl rfl (by decide) rfl (by decide) (q_tn (z := 1) rfl ?_)
          refine q_iconst rfl rfl ?_
          refine q_icne rfl rfl (fun c347 => absurd c347 (by decide)) (fun c347 => ?_)
          refine q_iconst rfl rfl ?_
          refine q_iret rfl rfl rfl ?_
          refine ⟨_, rfl, ?_⟩
          refine q_ifeq rfl rfl (fun c348 => ?_) (fun c348 => absurd (by decide) c348)
          refine q_iload_n rfl rfl rfl ?_
          refine q_aload_n rfl rfl rfl ?_
          refine q_getf rfl rfl (by decide) rfl rfl ?_
          refine q_iconst rfl rfl ?_
          refine q_iald rfl rfl (by decide) rfl (by decide) (q_tn (z := 1) rfl ?_)
          refine q_iclt rfl rfl (fun c349 => absurd c349 (i_lt_f (i_nlt c69) rfl)) (fun c349 => ?_)
          refine q_iconst rfl rfl ?_
          refine q_goto rfl ?_
          refine q_iret rfl rfl trivial ?_
          refine ⟨_, rfl, ?_⟩
          refine q_ifeq rfl rfl (fun c350 => absurd c350 (by decide)) (fun c350 => ?_)
          refine q_aload_n rfl rfl rfl ?_
          refine q_iload_n rfl rfl rfl ?_
          refine q_nV1 rfl rfl (Or.inl rfl) rfl rfl rfl (by decide) rfl ⟨rfl, rfl⟩ rfl ?_
          change PQ _ _ _ mm_X12_lacks 0 [.ref 46, .int x1] [] _ _ 0 0 _
          refine q_iload_n rfl rfl rfl ?_
          refine q_ifge rfl rfl (fun c351 => ?_) (fun c351 => absurd (i_ge_t (i_nlt c69) rfl) c351)
          refine q_aload_n rfl rfl rfl ?_
          refine q_iconst rfl rfl ?_
          refine q_nV1 rfl rfl (Or.inl rfl) rfl rfl rfl (by decide) rfl ⟨rfl, rfl⟩ rfl ?_
          change PQ _ _ _ mm_X12_isSpent 0 [.ref 46, .int 0, pm_un, pm_un, pm_un] [] _ _ 0 0 _
          refine q_iload_n rfl rfl rfl ?_
          refine q_ifne rfl rfl (fun c352 => ?_) (fun c352 => absurd (by decide) c352)
          refine q_iconst rfl rfl ?_
          refine q_goto rfl ?_
          refine q_ist2n rfl rfl rfl rfl ?_
          refine q_aload_n rfl rfl rfl ?_
          refine q_iconst rfl rfl ?_
          refine q_putf rfl rfl (by decide) rfl (by decide) rfl trivial ?_
          refine q_aload_n rfl rfl rfl ?_
          refine q_getf rfl rfl (by decide) rfl rfl ?_
          refine q_iload_n rfl rfl rfl ?_
          refine q_iald rfl rfl (by decide) rfl (by decide) (q_tn (z := 1) rfl ?_)
          refine q_ifeq rfl rfl (fun c353 => absurd c353 (by decide)) (fun c353 => ?_)
          refine q_iload_n rfl rfl rfl ?_
          refine q_ifgt rfl rfl (fun c354 => absurd c354 (by decide)) (fun c354 => ?_)
          refine q_aload_n rfl rfl rfl ?_
          refine q_getf rfl rfl (by decide) rfl rfl ?_
          refine q_ifeq rfl rfl (fun c355 => absurd c355 (by decide)) (fun c355 => ?_)
          refine q_aload_n rfl rfl rfl ?_
          refine q_getf rfl rfl (by decide) rfl rfl ?_
          refine q_iload_n rfl rfl rfl ?_
          refine q_iald rfl rfl (by decide) rfl (by decide) (q_tn (z := 1) rfl ?_)
          refine q_iconst rfl rfl ?_
          refine q_icne rfl rfl (fun c356 => absurd c356 (by decide)) (fun c356 => ?_)
          refine q_iconst rfl rfl ?_
          refine q_iret rfl rfl rfl ?_
          refine ⟨_, rfl, ?_⟩
          refine q_ifeq rfl rfl (fun c357 => ?_) (fun c357 => absurd (by decide) c357)
          refine q_iload_n rfl rfl rfl ?_
          refine q_aload_n rfl rfl rfl ?_
          refine q_getf rfl rfl (by decide) rfl rfl ?_
          refine q_iconst rfl rfl ?_
          refine q_iald rfl rfl (by decide) rfl (by decide) (q_tn (z := 1) rfl ?_)
          refine q_iclt rfl rfl (fun c358 => absurd c358 (i_lt_f (i_nlt c69) rfl)) (fun c358 => ?_)
          refine q_iconst rfl rfl ?_
          refine q_goto rfl ?_
          refine q_iret rfl rfl trivial ?_
          refine ⟨_, rfl, ?_⟩
          refine q_iret rfl rfl trivial ?_
          refine ⟨_, rfl, ?_⟩
          refine q_iceq rfl rfl (fun c359 => ?_) (fun c359 => absurd (by decide) c359)
          refine q_icc4 (z := 6) rfl rfl rfl rfl rfl ?_
          refine q_goto rfl ?_
          refine q_iload rfl rfl rfl ?_
          refine q_aload_nF rfl rfl rfl ?_
          refine q_alenX (x := 6) rfl rfl rfl ?_
          refine q_bipush rfl rfl ?_
          refine q_isub rfl rfl (q_tn (z := 0) rfl ?_)
          refine q_icgt rfl rfl (fun c360 => ?_) (fun c360 => absurd (by decide) c360)
          refine q_iconst rfl rfl ?_
          refine q_iret rfl rfl rfl ?_
          exact hK _ _
    · refine q_iconst rfl rfl ?_
      refine q_iret rfl rfl trivial ?_
      refine ⟨_, rfl, ?_⟩
      refine q_ist3n rfl rfl rfl rfl ?_
      refine q_iload_n rfl rfl rfl ?_
      refine q_ifeq rfl rfl (fun c361 => absurd c361 (by decide)) (fun c361 => ?_)
      refine q_iload_n rfl rfl rfl ?_
      refine q_iret rfl rfl trivial ?_
      refine ⟨_, rfl, ?_⟩
      refine q_aload_n rfl rfl rfl ?_
      refine q_aload_nF rfl rfl rfl ?_
      refine q_iload rfl rfl rfl ?_
      refine q_iconst rfl rfl ?_
      refine q_iadd rfl rfl (q_tn (z := 1) rfl ?_)
      refine q_ialdX (x := x1) rfl rfl rfl hx1 ?_
      refine q_aload_nF rfl rfl rfl ?_
      refine q_iload rfl rfl rfl ?_
      refine q_iconst rfl rfl ?_
      refine q_iadd rfl rfl (q_tn (z := 2) rfl ?_)
      refine q_ialdX (x := x2) rfl rfl rfl hx2 ?_
      refine q_nV2 rfl rfl (Or.inl rfl) rfl rfl rfl (by decide) (FW_46 S hW) ⟨rfl, rfl⟩ rfl ?_
      change PQ _ _ _ mm_X12_step 0 [.ref 46, .int x1, .int x2, pm_un, pm_un, pm_un] [] _ _ 0 0 _
      refine q_iload_n rfl rfl rfl ?_
      refine q_iflt rfl rfl (fun c362 => ?_) (fun c362 => absurd (i_lt_t (i_ltle (i_nle c2) (B := (-1)) rfl) rfl) c362)
      refine q_iconst rfl rfl ?_
      refine q_iret rfl rfl trivial ?_
      refine ⟨_, rfl, ?_⟩
      refine q_iceq rfl rfl (fun c363 => ?_) (fun c363 => absurd (by decide) c363)
      refine q_icc4 (z := 6) rfl rfl rfl rfl rfl ?_
      refine q_goto rfl ?_
      refine q_iload rfl rfl rfl ?_
      refine q_aload_nF rfl rfl rfl ?_
      refine q_alenX (x := 6) rfl rfl rfl ?_
      refine q_bipush rfl rfl ?_
      refine q_isub rfl rfl (q_tn (z := 0) rfl ?_)
      refine q_icgt rfl rfl (fun c364 => ?_) (fun c364 => absurd (by decide) c364)
      refine q_iconst rfl rfl ?_
      refine q_iret rfl rfl rfl ?_
      exact hK _ _
  · refine q_iconst rfl rfl ?_
    refine q_iret rfl rfl trivial ?_
    refine ⟨_, rfl, ?_⟩
    refine q_aload_n rfl rfl rfl ?_
    refine q_aload_nF rfl rfl rfl ?_
    refine q_iload rfl rfl rfl ?_
    refine q_iconst rfl rfl ?_
    refine q_iadd rfl rfl (q_tn (z := 1) rfl ?_)
    refine q_ialdX (x := x1) rfl rfl rfl hx1 ?_
    refine q_aload_nF rfl rfl rfl ?_
    refine q_iload rfl rfl rfl ?_
    refine q_iconst rfl rfl ?_
    refine q_iadd rfl rfl (q_tn (z := 2) rfl ?_)
    refine q_ialdX (x := x2) rfl rfl rfl hx2 ?_
    refine q_nV2 rfl rfl (Or.inl rfl) rfl rfl rfl (by decide) (FW_46 S hW) ⟨rfl, rfl⟩ rfl ?_
    change PQ _ _ _ mm_X12_step 0 [.ref 46, .int x1, .int x2, pm_un, pm_un, pm_un] [] _ _ 0 0 _
    refine q_iload_n rfl rfl rfl ?_
    refine q_iflt rfl rfl (fun c365 => ?_) (fun c365 => ?_)
    · refine q_iconst rfl rfl ?_
      refine q_iret rfl rfl trivial ?_
      refine ⟨_, rfl, ?_⟩
      refine q_iceq rfl rfl (fun c366 => ?_) (fun c366 => absurd (by decide) c366)
      refine q_icc4 (z := 6) rfl rfl rfl rfl rfl ?_
      refine q_goto rfl ?_
      refine q_iload rfl rfl rfl ?_
      refine q_aload_nF rfl rfl rfl ?_
      refine q_alenX (x := 6) rfl rfl rfl ?_
      refine q_bipush rfl rfl ?_
      refine q_isub rfl rfl (q_tn (z := 0) rfl ?_)
      refine q_icgt rfl rfl (fun c367 => ?_) (fun c367 => absurd (by decide) c367)
      refine q_iconst rfl rfl ?_
      refine q_iret rfl rfl rfl ?_
      exact hK _ _
    · refine q_iload_n rfl rfl rfl ?_
      refine q_ifge rfl rfl (fun c368 => absurd c368 (i_ge_f (i_ltle (i_nle c1) (B := (-1)) rfl) rfl)) (fun c368 => ?_)
      refine q_iconst rfl rfl ?_
      refine q_iret rfl rfl trivial ?_
      refine ⟨_, rfl, ?_⟩
      refine q_iceq rfl rfl (fun c369 => ?_) (fun c369 => absurd (by decide) c369)
      refine q_icc4 (z := 6) rfl rfl rfl rfl rfl ?_
      refine q_goto rfl ?_
      refine q_iload rfl rfl rfl ?_
      refine q_aload_nF rfl rfl rfl ?_
      refine q_alenX (x := 6) rfl rfl rfl ?_
      refine q_bipush rfl rfl ?_
      refine q_isub rfl rfl (q_tn (z := 0) rfl ?_)
      refine q_icgt rfl rfl (fun c370 => ?_) (fun c370 => absurd (by decide) c370)
      refine q_iconst rfl rfl ?_
      refine q_iret rfl rfl rfl ?_
      exact hK _ _
set_option maxHeartbeats 40000000 in
set_option maxRecDepth 20000 in
theorem t_op13 {S : Nat → pm_E} (hW : FW S) {x1 x2 x3 x4 x5 : Int32} (hx1 : xs 1 = x1) (hx2 : xs 2 = x2) (hx3 : xs 3 = x3) (hx4 : xs 4 = x4) (hx5 : xs 5 = x5) (hK : ∀ S n, K (some (.int 1)) S n) : PQ (j_SL 6) (j_SV xs) EX mm_L_law 593 [.float 5, .ref 0, .ref 46, .ref 81, .int 0, pm_un, pm_un, pm_un] [] S 82 82 190091 K := by
  refine q_aload_n rfl rfl rfl ?_
  refine q_aload_nF rfl rfl rfl ?_
  refine q_iload rfl rfl rfl ?_
  refine q_iconst rfl rfl ?_
  refine q_iadd rfl rfl (q_tn (z := 1) rfl ?_)
  refine q_ialdX (x := x1) rfl rfl rfl hx1 ?_
  refine q_nV1 rfl rfl (Or.inl rfl) rfl rfl rfl (by decide) (FW_0 S hW) ⟨rfl, rfl⟩ rfl ?_
  change PQ _ _ _ mm_X11_lead 0 [.ref 0, .int x1, pm_un] [] _ _ 0 0 _
  refine q_aload_n rfl rfl rfl ?_
  refine q_iload_n rfl rfl rfl ?_
  refine q_nV1 rfl rfl (Or.inl rfl) rfl rfl rfl (by decide) (FW_0 S hW) ⟨rfl, rfl⟩ rfl ?_
  change PQ _ _ _ mm_X11_refusalOf 0 [.ref 0, .int x1, pm_un] [] _ _ 0 0 _
  refine q_iload_n rfl rfl rfl ?_
  refine q_ifge rfl rfl (fun c1 => ?_) (fun c1 => ?_)
  · refine q_aload_n rfl rfl rfl ?_
    refine q_iconst rfl rfl ?_
    refine q_nV1 rfl rfl (Or.inl rfl) rfl rfl rfl (by decide) (FW_0 S hW) ⟨rfl, rfl⟩ rfl ?_
    change PQ _ _ _ mm_X11_sizeOf 0 [.ref 0, .int 0, pm_un] [] _ _ 0 0 _
    refine q_aload_n rfl rfl rfl ?_
    refine q_getf rfl rfl (by decide) (FW_0 S hW) rfl ?_
    refine q_iload_n rfl rfl rfl ?_
    refine q_iald rfl rfl (by decide) (FW_44 S hW) (by decide) (q_tn (z := 0) rfl ?_)
    refine q_ifne rfl rfl (fun c2 => ?_) (fun c2 => absurd (by decide) c2)
    refine q_iload_n rfl rfl rfl ?_
    refine q_ifne rfl rfl (fun c3 => ?_) (fun c3 => absurd (by decide) c3)
    refine q_aload_n rfl rfl rfl ?_
    refine q_getf rfl rfl (by decide) (FW_0 S hW) rfl ?_
    refine q_goto rfl ?_
    refine q_ast2n rfl rfl rfl rfl ?_
    refine q_aload_n rfl rfl rfl ?_
    refine q_getf rfl rfl (by decide) (FW_0 S hW) rfl ?_
    refine q_iload_n rfl rfl rfl ?_
    refine q_putf rfl rfl (by decide) (FW_7 S hW) (by decide) rfl trivial ?_
    refine q_aload_n rfl rfl rfl ?_
    refine q_aload_n rfl rfl rfl ?_
    refine q_getf rfl rfl (by decide) (FW_0 S hW) rfl ?_
    refine q_iconst rfl rfl ?_
    refine q_nV2v rfl rfl (Or.inl rfl) rfl rfl rfl (by decide) (FW_8 S hW) ⟨rfl, rfl⟩ rfl ?_
    change PQ _ _ _ mm_X7_explore 0 [.ref 8, .ref 7, .int 0, pm_un] [] _ _ 0 0 _
    refine q_aload_n rfl rfl rfl ?_
    refine q_nV0v rfl rfl (Or.inl rfl) rfl rfl rfl (by decide) (FW_8 S hW) ⟨rfl, rfl⟩ rfl ?_
    change PQ _ _ _ mm_X7_clear 0 [.ref 8, pm_un] [] _ _ 0 0 _
    refine q_iconst rfl rfl ?_
    refine q_ist1n rfl rfl rfl rfl ?_
    refine q_iload_n rfl rfl rfl ?_
    refine q_aload_n rfl rfl rfl ?_
    refine q_getf rfl rfl (by decide) (FW_8 S hW) rfl ?_
    refine q_icge rfl rfl (fun c4 => ?_) (fun c4 => absurd (by decide) c4)
    refine q_aload_n rfl rfl rfl ?_
    refine q_iconst rfl rfl ?_
    refine q_putf rfl rfl (by decide) (FW_8 S hW) (by decide) rfl trivial ?_
    refine q_aload_n rfl rfl rfl ?_
    refine q_iconst rfl rfl ?_
    refine q_putf rfl rfl (by decide) rfl (by decide) rfl rfl ?_
    refine q_aload_n rfl rfl rfl ?_
    refine q_iconst rfl rfl ?_
    refine q_putf rfl rfl (by decide) rfl (by decide) rfl rfl ?_
    refine q_aload_n rfl rfl rfl ?_
    refine q_lconst rfl rfl ?_
    refine q_putf rfl rfl (by decide) rfl (by decide) rfl trivial ?_
    refine q_ret rfl rfl ?_
    refine ⟨rfl, ?_⟩
    refine q_aload_n rfl rfl rfl ?_
    refine q_aload_n rfl rfl rfl ?_
    refine q_nV0 rfl rfl (Or.inl rfl) rfl rfl rfl (by decide) rfl ⟨rfl, rfl⟩ rfl ?_
    change PQ _ _ _ mm_X6_first 0 [.ref 7, pm_un, pm_un, pm_un] [] _ _ 0 0 _
    refine q_lconst rfl rfl ?_
    refine q_lst1n rfl rfl rfl rfl ?_
    refine q_iconst rfl rfl ?_
    refine q_ist3n rfl rfl rfl rfl ?_
    refine q_iload_n rfl rfl rfl ?_
    refine q_iconst rfl rfl ?_
    refine q_icge rfl rfl (fun c5 => absurd c5 (by decide)) (fun c5 => ?_)
    refine q_lload_n rfl rfl rfl ?_
    refine q_iload_n rfl rfl rfl ?_
    refine q_aload_n rfl rfl rfl ?_
    refine q_getf rfl rfl (by decide) rfl rfl ?_
    refine q_getf rfl rfl (by decide) (FW_1 S hW) rfl ?_
    refine q_iload_n rfl rfl rfl ?_
    refine q_iald rfl rfl (by decide) (FW_2 S hW) (by decide) (q_tn (z := 0) rfl ?_)
    refine q_nS3 rfl rfl (Or.inl rfl) rfl rfl ⟨rfl, rfl⟩ rfl ?_
    change PQ _ _ _ mm_X0_withPlace 0 [.long 0, pm_un, .int 0, .int 0, pm_un] [] _ _ 0 0 _
    refine q_bipush rfl rfl ?_
    refine q_iconst rfl rfl ?_
    refine q_iload_n rfl rfl rfl ?_
    refine q_imul rfl rfl (q_tn (z := 0) rfl ?_)
    refine q_iadd rfl rfl (q_tn (z := 36) rfl ?_)
    refine q_ist4 rfl rfl rfl rfl ?_
    refine q_lload_n rfl rfl rfl ?_
    refine q_ldc2 rfl rfl ?_
    refine q_iload rfl rfl rfl ?_
    refine q_lshl rfl rfl (q_tnl (z := 1030792151040) rfl ?_)
    refine q_ldc2 rfl rfl ?_
    refine q_lxor rfl rfl (q_tnl (z := (-1030792151041)) rfl ?_)
    refine q_land rfl rfl (q_tnl (z := 0) rfl ?_)
    refine q_iload_n rfl rfl rfl ?_
    refine q_i2l rfl rfl (q_tnl (z := 0) rfl ?_)
    refine q_iload rfl rfl rfl ?_
    refine q_lshl rfl rfl (q_tnl (z := 0) rfl ?_)
    refine q_lor rfl rfl (q_tnl (z := 0) rfl ?_)
    refine q_lret rfl rfl trivial ?_
    refine ⟨_, rfl, ?_⟩
    refine q_lst1n rfl rfl rfl rfl ?_
    refine q_icc3 (z := 1) rfl rfl rfl rfl rfl ?_
    refine q_goto rfl ?_
    refine q_iload_n rfl rfl rfl ?_
    refine q_iconst rfl rfl ?_
    refine q_icge rfl rfl (fun c6 => absurd c6 (by decide)) (fun c6 => ?_)
    refine q_lload_n rfl rfl rfl ?_
    refine q_iload_n rfl rfl rfl ?_
    refine q_aload_n rfl rfl rfl ?_
    refine q_getf rfl rfl (by decide) rfl rfl ?_
    refine q_getf rfl rfl (by decide) (FW_1 S hW) rfl ?_
    refine q_iload_n rfl rfl rfl ?_
    refine q_iald rfl rfl (by decide) (FW_2 S hW) (by decide) (q_tn (z := 0) rfl ?_)
    refine q_nS3 rfl rfl (Or.inl rfl) rfl rfl ⟨rfl, rfl⟩ rfl ?_
    change PQ _ _ _ mm_X0_withPlace 0 [.long 0, pm_un, .int 1, .int 0, pm_un] [] _ _ 0 0 _
    refine q_bipush rfl rfl ?_
    refine q_iconst rfl rfl ?_
    refine q_iload_n rfl rfl rfl ?_
    refine q_imul rfl rfl (q_tn (z := 4) rfl ?_)
    refine q_iadd rfl rfl (q_tn (z := 40) rfl ?_)
    refine q_ist4 rfl rfl rfl rfl ?_
    refine q_lload_n rfl rfl rfl ?_
    refine q_ldc2 rfl rfl ?_
    refine q_iload rfl rfl rfl ?_
    refine q_lshl rfl rfl (q_tnl (z := 16492674416640) rfl ?_)
    refine q_ldc2 rfl rfl ?_
    refine q_lxor rfl rfl (q_tnl (z := (-16492674416641)) rfl ?_)
    refine q_land rfl rfl (q_tnl (z := 0) rfl ?_)
    refine q_iload_n rfl rfl rfl ?_
    refine q_i2l rfl rfl (q_tnl (z := 0) rfl ?_)
    refine q_iload rfl rfl rfl ?_
    refine q_lshl rfl rfl (q_tnl (z := 0) rfl ?_)
    refine q_lor rfl rfl (q_tnl (z := 0) rfl ?_)
    refine q_lret rfl rfl trivial ?_
    refine ⟨_, rfl, ?_⟩
    refine q_lst1n rfl rfl rfl rfl ?_
    refine q_icc3 (z := 2) rfl rfl rfl rfl rfl ?_
    refine q_goto rfl ?_
    refine q_iload_n rfl rfl rfl ?_
    refine q_iconst rfl rfl ?_
    refine q_icge rfl rfl (fun c7 => absurd c7 (by decide)) (fun c7 => ?_)
    refine q_lload_n rfl rfl rfl ?_
    refine q_iload_n rfl rfl rfl ?_
    refine q_aload_n rfl rfl rfl ?_
    refine q_getf rfl rfl (by decide) rfl rfl ?_
    refine q_getf rfl rfl (by decide) (FW_1 S hW) rfl ?_
    refine q_iload_n rfl rfl rfl ?_
    refine q_iald rfl rfl (by decide) (FW_2 S hW) (by decide) (q_tn (z := 0) rfl ?_)
    refine q_nS3 rfl rfl (Or.inl rfl) rfl rfl ⟨rfl, rfl⟩ rfl ?_
    change PQ _ _ _ mm_X0_withPlace 0 [.long 0, pm_un, .int 2, .int 0, pm_un] [] _ _ 0 0 _
    refine q_bipush rfl rfl ?_
    refine q_iconst rfl rfl ?_
    refine q_iload_n rfl rfl rfl ?_
    refine q_imul rfl rfl (q_tn (z := 8) rfl ?_)
    refine q_iadd rfl rfl (q_tn (z := 44) rfl ?_)
    refine q_ist4 rfl rfl rfl rfl ?_
    refine q_lload_n rfl rfl rfl ?_
    refine q_ldc2 rfl rfl ?_
    refine q_iload rfl rfl rfl ?_
    refine q_lshl rfl rfl (q_tnl (z := 263882790666240) rfl ?_)
    refine q_ldc2 rfl rfl ?_
    refine q_lxor rfl rfl (q_tnl (z := (-263882790666241)) rfl ?_)
    refine q_land rfl rfl (q_tnl (z := 0) rfl ?_)
    refine q_iload_n rfl rfl rfl ?_
    refine q_i2l rfl rfl (q_tnl (z := 0) rfl ?_)
    refine q_iload rfl rfl rfl ?_
    refine q_lshl rfl rfl (q_tnl (z := 0) rfl ?_)
    refine q_lor rfl rfl (q_tnl (z := 0) rfl ?_)
    refine q_lret rfl rfl trivial ?_
    refine ⟨_, rfl, ?_⟩
    refine q_lst1n rfl rfl rfl rfl ?_
    refine q_icc3 (z := 3) rfl rfl rfl rfl rfl ?_
    refine q_goto rfl ?_
    refine q_iload_n rfl rfl rfl ?_
    refine q_iconst rfl rfl ?_
    refine q_icge rfl rfl (fun c8 => absurd c8 (by decide)) (fun c8 => ?_)
    refine q_lload_n rfl rfl rfl ?_
    refine q_iload_n rfl rfl rfl ?_
    refine q_aload_n rfl rfl rfl ?_
    refine q_getf rfl rfl (by decide) rfl rfl ?_
    refine q_getf rfl rfl (by decide) (FW_1 S hW) rfl ?_
    refine q_iload_n rfl rfl rfl ?_
    refine q_iald rfl rfl (by decide) (FW_2 S hW) (by decide) (q_tn (z := 0) rfl ?_)
    refine q_nS3 rfl rfl (Or.inl rfl) rfl rfl ⟨rfl, rfl⟩ rfl ?_
    change PQ _ _ _ mm_X0_withPlace 0 [.long 0, pm_un, .int 3, .int 0, pm_un] [] _ _ 0 0 _
    refine q_bipush rfl rfl ?_
    refine q_iconst rfl rfl ?_
    refine q_iload_n rfl rfl rfl ?_
    refine q_imul rfl rfl (q_tn (z := 12) rfl ?_)
    refine q_iadd rfl rfl (q_tn (z := 48) rfl ?_)
    refine q_ist4 rfl rfl rfl rfl ?_
    refine q_lload_n rfl rfl rfl ?_
    refine q_ldc2 rfl rfl ?_
    refine q_iload rfl rfl rfl ?_
    refine q_lshl rfl rfl (q_tnl (z := 4222124650659840) rfl ?_)
    refine q_ldc2 rfl rfl ?_
    refine q_lxor rfl rfl (q_tnl (z := (-4222124650659841)) rfl ?_)
    refine q_land rfl rfl (q_tnl (z := 0) rfl ?_)
    refine q_iload_n rfl rfl rfl ?_
    refine q_i2l rfl rfl (q_tnl (z := 0) rfl ?_)
    refine q_iload rfl rfl rfl ?_
    refine q_lshl rfl rfl (q_tnl (z := 0) rfl ?_)
    refine q_lor rfl rfl (q_tnl (z := 0) rfl ?_)
    refine q_lret rfl rfl trivial ?_
    refine ⟨_, rfl, ?_⟩
    refine q_lst1n rfl rfl rfl rfl ?_
    refine q_icc3 (z := 4) rfl rfl rfl rfl rfl ?_
    refine q_goto rfl ?_
    refine q_iload_n rfl rfl rfl ?_
    refine q_iconst rfl rfl ?_
    refine q_icge rfl rfl (fun c9 => ?_) (fun c9 => absurd (by decide) c9)
    refine q_lload_n rfl rfl rfl ?_
    refine q_lret rfl rfl trivial ?_
    refine ⟨_, rfl, ?_⟩
    refine q_iconst rfl rfl ?_
    refine q_iconst rfl rfl ?_
    refine q_nV3 rfl rfl (Or.inl rfl) rfl rfl rfl (by decide) rfl ⟨rfl, rfl⟩ rfl ?_
    change PQ _ _ _ mm_X7_numberOf 0 [.ref 8, .long 0, pm_un, .int (-1), .int (-1), pm_un, pm_un, pm_un] [] _ _ 0 0 _
    refine q_lload_n rfl rfl rfl ?_
    refine q_ldc2 rfl rfl ?_
    refine q_lmul rfl rfl (q_tnl (z := 0) rfl ?_)
    refine q_bipush rfl rfl ?_
    refine q_lushr rfl rfl (q_tnl (z := 0) rfl ?_)
    refine q_l2i rfl rfl (q_tn (z := 0) rfl ?_)
    refine q_sipush rfl rfl ?_
    refine q_iand rfl rfl (q_tn (z := 0) rfl ?_)
    refine q_ist5 rfl rfl rfl rfl ?_
    refine q_iconst rfl rfl ?_
    refine q_ist6 rfl rfl rfl rfl ?_
    refine q_iload rfl rfl rfl ?_
    refine q_sipush rfl rfl ?_
    refine q_icge rfl rfl (fun c10 => absurd c10 (by decide)) (fun c10 => ?_)
    refine q_aload_n rfl rfl rfl ?_
    refine q_getf rfl rfl (by decide) rfl rfl ?_
    refine q_iload rfl rfl rfl ?_
    refine q_iald rfl rfl (by decide) (FW_14 S hW) (by decide) (q_tn (z := 0) rfl ?_)
    refine q_iconst rfl rfl ?_
    refine q_isub rfl rfl (q_tn (z := (-1)) rfl ?_)
    refine q_ist7 rfl rfl rfl rfl ?_
    refine q_iload rfl rfl rfl ?_
    refine q_ifge rfl rfl (fun c11 => absurd c11 (by decide)) (fun c11 => ?_)
    refine q_aload_n rfl rfl rfl ?_
    refine q_lload_n rfl rfl rfl ?_
    refine q_iload rfl rfl rfl ?_
    refine q_iload_n rfl rfl rfl ?_
    refine q_iload rfl rfl rfl ?_
    refine q_nV4 rfl rfl (Or.inl rfl) rfl rfl rfl (by decide) rfl ⟨rfl, rfl⟩ rfl ?_
    change PQ _ _ _ mm_X7_newNumber 0 [.ref 8, .long 0, pm_un, .int 0, .int (-1), .int (-1), pm_un] [] _ _ 0 0 _
    refine q_aload_n rfl rfl rfl ?_
    refine q_getf rfl rfl (by decide) rfl rfl ?_
    refine q_sipush rfl rfl ?_
    refine q_iclt rfl rfl (fun c12 => ?_) (fun c12 => absurd (by decide) c12)
    refine q_aload_n rfl rfl rfl ?_
    refine q_dupr rfl rfl ?_
    refine q_getf rfl rfl (by decide) rfl rfl ?_
    refine q_dupx1 rfl rfl ?_
    refine q_iconst rfl rfl ?_
    refine q_iadd rfl rfl (q_tn (z := 1) rfl ?_)
    refine q_putf rfl rfl (by decide) rfl (by decide) rfl trivial ?_
    refine q_ist6 rfl rfl rfl rfl ?_
    refine q_aload_n rfl rfl rfl ?_
    refine q_getf rfl rfl (by decide) rfl rfl ?_
    refine q_iload rfl rfl rfl ?_
    refine q_lload_n rfl rfl rfl ?_
    refine q_last rfl rfl (by decide) (FW_9 S hW) (by decide) ?_
    refine q_aload_n rfl rfl rfl ?_
    refine q_getf rfl rfl (by decide) rfl rfl ?_
    refine q_iload rfl rfl rfl ?_
    refine q_iload rfl rfl rfl ?_
    refine q_iast rfl rfl (by decide) (FW_10 S hW) (by decide) ?_
    refine q_aload_n rfl rfl rfl ?_
    refine q_getf rfl rfl (by decide) rfl rfl ?_
    refine q_iload rfl rfl rfl ?_
    refine q_iload rfl rfl rfl ?_
    refine q_iast rfl rfl (by decide) (FW_11 S hW) (by decide) ?_
    refine q_aload_n rfl rfl rfl ?_
    refine q_getf rfl rfl (by decide) rfl rfl ?_
    refine q_iload rfl rfl rfl ?_
    refine q_iload_n rfl rfl rfl ?_
    refine q_iast rfl rfl (by decide) (FW_15 S hW) (by decide) ?_
    refine q_aload_n rfl rfl rfl ?_
    refine q_getf rfl rfl (by decide) rfl rfl ?_
    refine q_iload_n rfl rfl rfl ?_
    refine q_iload rfl rfl rfl ?_
    refine q_iconst rfl rfl ?_
    refine q_iadd rfl rfl (q_tn (z := 1) rfl ?_)
    refine q_iast rfl rfl (by decide) (FW_14 S hW) (by decide) ?_
    refine q_iload rfl rfl rfl ?_
    refine q_iret rfl rfl trivial ?_
    refine ⟨_, rfl, ?_⟩
    refine q_iret rfl rfl trivial ?_
    refine ⟨_, rfl, ?_⟩
    refine q_pop rfl rfl ?_
    refine q_iconst rfl rfl ?_
    refine q_ist3n rfl rfl rfl rfl ?_
    refine q_iload_n rfl rfl rfl ?_
    refine q_sipush rfl rfl ?_
    refine q_icge rfl rfl (fun c13 => absurd c13 (by decide)) (fun c13 => ?_)
    refine q_iload_n rfl rfl rfl ?_
    refine q_aload_n rfl rfl rfl ?_
    refine q_getf rfl rfl (by decide) rfl rfl ?_
    refine q_icge rfl rfl (fun c14 => absurd c14 (by decide)) (fun c14 => ?_)
    refine q_aload_n rfl rfl rfl ?_
    refine q_aload_n rfl rfl rfl ?_
    refine q_iload_n rfl rfl rfl ?_
    refine q_nV2v rfl rfl (Or.inl rfl) rfl rfl rfl (by decide) rfl ⟨rfl, rfl⟩ rfl ?_
    change PQ _ _ _ mm_X7_lookAt 0 [.ref 8, .ref 7, .int 0, pm_un, pm_un, pm_un, pm_un, pm_un, pm_un, pm_un] [] _ _ 0 0 _
    refine q_aload_n rfl rfl rfl ?_
    refine q_getf rfl rfl (by decide) rfl rfl ?_
    refine q_iload_n rfl rfl rfl ?_
    refine q_lald rfl rfl (by decide) rfl (by decide) (q_tnl (z := 0) rfl ?_)
    refine q_lst3n rfl rfl rfl rfl ?_
    refine q_aload_n rfl rfl rfl ?_
    refine q_aload_n rfl rfl rfl ?_
    refine q_lload_n rfl rfl rfl ?_
    refine q_nV1 rfl rfl (Or.inl rfl) rfl rfl rfl (by decide) rfl ⟨rfl, rfl⟩ rfl ?_
    change PQ _ _ _ mm_X6_ableHands 0 [.ref 7, .long 0, pm_un, pm_un, pm_un, pm_un] [] _ _ 0 0 _
    refine q_aload_n rfl rfl rfl ?_
    refine q_lload_n rfl rfl rfl ?_
    refine q_nV1 rfl rfl (Or.inl rfl) rfl rfl rfl (by decide) rfl ⟨rfl, rfl⟩ rfl ?_
    change PQ _ _ _ mm_X6_allMeet 0 [.ref 7, .long 0, pm_un, pm_un, pm_un] [] _ _ 0 0 _
    refine q_iconst rfl rfl ?_
    refine q_ist3n rfl rfl rfl rfl ?_
    refine q_iload_n rfl rfl rfl ?_
    refine q_aload_n rfl rfl rfl ?_
    refine q_getf rfl rfl (by decide) rfl rfl ?_
    refine q_getf rfl rfl (by decide) (FW_1 S hW) rfl ?_
    refine q_icge rfl rfl (fun c15 => absurd c15 (by decide)) (fun c15 => ?_)
    refine q_aload_n rfl rfl rfl ?_
    refine q_getf rfl rfl (by decide) rfl rfl ?_
    refine q_iload_n rfl rfl rfl ?_
    refine q_lload_n rfl rfl rfl ?_
    refine q_iload_n rfl rfl rfl ?_
    refine q_nS2 rfl rfl (Or.inl rfl) rfl rfl ⟨rfl, rfl⟩ rfl ?_
    change PQ _ _ _ mm_X0_position 0 [.long 0, pm_un, .int 0] [] _ _ 0 0 _
    refine q_lload_n rfl rfl rfl ?_
    refine q_bipush rfl rfl ?_
    refine q_iload_n rfl rfl rfl ?_
    refine q_imul rfl rfl (q_tn (z := 0) rfl ?_)
    refine q_lushr rfl rfl (q_tnl (z := 0) rfl ?_)
    refine q_l2i rfl rfl (q_tn (z := 0) rfl ?_)
    refine q_bipush rfl rfl ?_
    refine q_iand rfl rfl (q_tn (z := 0) rfl ?_)
    refine q_iret rfl rfl trivial ?_
    refine ⟨_, rfl, ?_⟩
    refine q_nV2 rfl rfl (Or.inl rfl) rfl rfl rfl (by decide) (FW_1 S hW) ⟨rfl, rfl⟩ rfl ?_
    change PQ _ _ _ mm_X8_cellOf 0 [.ref 1, .int 0, .int 0, pm_un] [] _ _ 0 0 _
    refine q_iload_n rfl rfl rfl ?_
    refine q_iflt rfl rfl (fun c16 => absurd c16 (by decide)) (fun c16 => ?_)
    refine q_iload_n rfl rfl rfl ?_
    refine q_aload_n rfl rfl rfl ?_
    refine q_getf rfl rfl (by decide) (FW_1 S hW) rfl ?_
    refine q_icge rfl rfl (fun c17 => absurd c17 (by decide)) (fun c17 => ?_)
    refine q_iload_n rfl rfl rfl ?_
    refine q_iflt rfl rfl (fun c18 => absurd c18 (by decide)) (fun c18 => ?_)
    refine q_iload_n rfl rfl rfl ?_
    refine q_aload_n rfl rfl rfl ?_
    refine q_getf rfl rfl (by decide) (FW_1 S hW) rfl ?_
    refine q_iload_n rfl rfl rfl ?_
    refine q_iald rfl rfl (by decide) (FW_3 S hW) (by decide) (q_tn (z := 0) rfl ?_)
    refine q_icge rfl rfl (fun c19 => ?_) (fun c19 => absurd (by decide) c19)
    refine q_iconst rfl rfl ?_
    refine q_ist3n rfl rfl rfl rfl ?_
    refine q_iload_n rfl rfl rfl ?_
    refine q_ifeq rfl rfl (fun c20 => ?_) (fun c20 => absurd (by decide) c20)
    refine q_iconst rfl rfl ?_
    refine q_iret rfl rfl trivial ?_
    refine ⟨_, rfl, ?_⟩
    refine q_ist4 rfl rfl rfl rfl ?_
    refine q_iload rfl rfl rfl ?_
    refine q_iflt rfl rfl (fun c21 => ?_) (fun c21 => absurd (by decide) c21)
    refine q_icc3 (z := 1) rfl rfl rfl rfl rfl ?_
    refine q_goto rfl ?_
    refine q_iload_n rfl rfl rfl ?_
    refine q_aload_n rfl rfl rfl ?_
    refine q_getf rfl rfl (by decide) rfl rfl ?_
    refine q_getf rfl rfl (by decide) (FW_1 S hW) rfl ?_
    refine q_icge rfl rfl (fun c22 => ?_) (fun c22 => absurd (by decide) c22)
    refine q_iconst rfl rfl ?_
    refine q_iret rfl rfl rfl ?_
    refine ⟨_, rfl, ?_⟩
    refine q_ist3n rfl rfl rfl rfl ?_
    refine q_iconst rfl rfl ?_
    refine q_ist4 rfl rfl rfl rfl ?_
    refine q_iconst rfl rfl ?_
    refine q_ist5 rfl rfl rfl rfl ?_
    refine q_iload rfl rfl rfl ?_
    refine q_aload_n rfl rfl rfl ?_
    refine q_getf rfl rfl (by decide) rfl rfl ?_
    refine q_getf rfl rfl (by decide) (FW_1 S hW) rfl ?_
    refine q_icge rfl rfl (fun c23 => absurd c23 (by decide)) (fun c23 => ?_)
    refine q_aload_n rfl rfl rfl ?_
    refine q_lload_n rfl rfl rfl ?_
    refine q_iload rfl rfl rfl ?_
    refine q_iload_n rfl rfl rfl ?_
    refine q_nV3 rfl rfl (Or.inl rfl) rfl rfl rfl (by decide) rfl ⟨rfl, rfl⟩ rfl ?_
    change PQ _ _ _ mm_X6_isAble 0 [.ref 7, .long 0, pm_un, .int 0, .int 1, pm_un, pm_un, pm_un] [] _ _ 0 0 _
    refine q_aload_n rfl rfl rfl ?_
    refine q_getf rfl rfl (by decide) rfl rfl ?_
    refine q_iload_n rfl rfl rfl ?_
    refine q_lload_n rfl rfl rfl ?_
    refine q_iload_n rfl rfl rfl ?_
    refine q_nS2 rfl rfl (Or.inl rfl) rfl rfl ⟨rfl, rfl⟩ rfl ?_
    change PQ _ _ _ mm_X0_position 0 [.long 0, pm_un, .int 0] [] _ _ 0 0 _
    refine q_lload_n rfl rfl rfl ?_
    refine q_bipush rfl rfl ?_
    refine q_iload_n rfl rfl rfl ?_
    refine q_imul rfl rfl (q_tn (z := 0) rfl ?_)
    refine q_lushr rfl rfl (q_tnl (z := 0) rfl ?_)
    refine q_l2i rfl rfl (q_tn (z := 0) rfl ?_)
    refine q_bipush rfl rfl ?_
    refine q_iand rfl rfl (q_tn (z := 0) rfl ?_)
    refine q_iret rfl rfl trivial ?_
    refine ⟨_, rfl, ?_⟩
    refine q_nV2 rfl rfl (Or.inl rfl) rfl rfl rfl (by decide) (FW_1 S hW) ⟨rfl, rfl⟩ rfl ?_
    change PQ _ _ _ mm_X8_cellOf 0 [.ref 1, .int 0, .int 0, pm_un] [] _ _ 0 0 _
    refine q_iload_n rfl rfl rfl ?_
    refine q_iflt rfl rfl (fun c24 => absurd c24 (by decide)) (fun c24 => ?_)
    refine q_iload_n rfl rfl rfl ?_
    refine q_aload_n rfl rfl rfl ?_
    refine q_getf rfl rfl (by decide) (FW_1 S hW) rfl ?_
    refine q_icge rfl rfl (fun c25 => absurd c25 (by decide)) (fun c25 => ?_)
    refine q_iload_n rfl rfl rfl ?_
    refine q_iflt rfl rfl (fun c26 => absurd c26 (by decide)) (fun c26 => ?_)
    refine q_iload_n rfl rfl rfl ?_
    refine q_aload_n rfl rfl rfl ?_
    refine q_getf rfl rfl (by decide) (FW_1 S hW) rfl ?_
    refine q_iload_n rfl rfl rfl ?_
    refine q_iald rfl rfl (by decide) (FW_3 S hW) (by decide) (q_tn (z := 0) rfl ?_)
    refine q_icge rfl rfl (fun c27 => ?_) (fun c27 => absurd (by decide) c27)
    refine q_iconst rfl rfl ?_
    refine q_ist3n rfl rfl rfl rfl ?_
    refine q_iload_n rfl rfl rfl ?_
    refine q_ifeq rfl rfl (fun c28 => ?_) (fun c28 => absurd (by decide) c28)
    refine q_iconst rfl rfl ?_
    refine q_iret rfl rfl trivial ?_
    refine ⟨_, rfl, ?_⟩
    refine q_ist5 rfl rfl rfl rfl ?_
    refine q_iload rfl rfl rfl ?_
    refine q_ifge rfl rfl (fun c29 => absurd c29 (by decide)) (fun c29 => ?_)
    refine q_iconst rfl rfl ?_
    refine q_iret rfl rfl rfl ?_
    refine ⟨_, rfl, ?_⟩
    refine q_ifeq rfl rfl (fun c30 => ?_) (fun c30 => absurd (by decide) c30)
    refine q_icc5 (z := 1) rfl rfl rfl rfl rfl ?_
    refine q_goto rfl ?_
    refine q_iload rfl rfl rfl ?_
    refine q_aload_n rfl rfl rfl ?_
    refine q_getf rfl rfl (by decide) rfl rfl ?_
    refine q_getf rfl rfl (by decide) (FW_1 S hW) rfl ?_
    refine q_icge rfl rfl (fun c31 => ?_) (fun c31 => absurd (by decide) c31)
    refine q_iload rfl rfl rfl ?_
    refine q_iret rfl rfl trivial ?_
    refine ⟨_, rfl, ?_⟩
    refine q_lload_n rfl rfl rfl ?_
    refine q_nS1 rfl rfl (Or.inl rfl) rfl rfl ⟨rfl, rfl⟩ rfl ?_
    change PQ _ _ _ mm_X0_last 0 [.long 0, pm_un] [] _ _ 0 0 _
    refine q_lload_n rfl rfl rfl ?_
    refine q_bipush rfl rfl ?_
    refine q_lushr rfl rfl (q_tnl (z := 0) rfl ?_)
    refine q_l2i rfl rfl (q_tn (z := 0) rfl ?_)
    refine q_iconst rfl rfl ?_
    refine q_iand rfl rfl (q_tn (z := 0) rfl ?_)
    refine q_iconst rfl rfl ?_
    refine q_isub rfl rfl (q_tn (z := (-1)) rfl ?_)
    refine q_iret rfl rfl trivial ?_
    refine ⟨_, rfl, ?_⟩
    refine q_nV2 rfl rfl (Or.inl rfl) rfl rfl rfl (by decide) rfl ⟨rfl, rfl⟩ rfl ?_
    change PQ _ _ _ mm_X6_chosenHands 0 [.ref 7, .int 0, .int (-1), pm_un, pm_un] [] _ _ 0 0 _
    refine q_aload_n rfl rfl rfl ?_
    refine q_getf rfl rfl (by decide) rfl rfl ?_
    refine q_iconst rfl rfl ?_
    refine q_icne rfl rfl (fun c32 => absurd c32 (by decide)) (fun c32 => ?_)
    refine q_aload_n rfl rfl rfl ?_
    refine q_getf rfl rfl (by decide) rfl rfl ?_
    refine q_iconst rfl rfl ?_
    refine q_iceq rfl rfl (fun c33 => absurd c33 (by decide)) (fun c33 => ?_)
    refine q_iload_n rfl rfl rfl ?_
    refine q_iret rfl rfl trivial ?_
    refine ⟨_, rfl, ?_⟩
    refine q_ist5 rfl rfl rfl rfl ?_
    refine q_iconst rfl rfl ?_
    refine q_ist6 rfl rfl rfl rfl ?_
    refine q_iload rfl rfl rfl ?_
    refine q_iconst rfl rfl ?_
    refine q_icge rfl rfl (fun c34 => absurd c34 (by decide)) (fun c34 => ?_)
    refine q_iconst rfl rfl ?_
    refine q_ist7 rfl rfl rfl rfl ?_
    refine q_iload rfl rfl rfl ?_
    refine q_iload rfl rfl rfl ?_
    refine q_iushr rfl rfl (q_tn (z := 0) rfl ?_)
    refine q_iconst rfl rfl ?_
    refine q_iand rfl rfl (q_tn (z := 0) rfl ?_)
    refine q_ifeq rfl rfl (fun c35 => ?_) (fun c35 => absurd (by decide) c35)
    refine q_aload_n rfl rfl rfl ?_
    refine q_getf rfl rfl (by decide) rfl rfl ?_
    refine q_iload_n rfl rfl rfl ?_
    refine q_iconst rfl rfl ?_
    refine q_imul rfl rfl (q_tn (z := 0) rfl ?_)
    refine q_iload rfl rfl rfl ?_
    refine q_iadd rfl rfl (q_tn (z := 0) rfl ?_)
    refine q_iload rfl rfl rfl ?_
    refine q_iast rfl rfl (by decide) (FW_13 S hW) (by decide) ?_
    refine q_icc6 (z := 1) rfl rfl rfl rfl rfl ?_
    refine q_goto rfl ?_
    refine q_iload rfl rfl rfl ?_
    refine q_iconst rfl rfl ?_
    refine q_icge rfl rfl (fun c36 => absurd c36 (by decide)) (fun c36 => ?_)
    refine q_iconst rfl rfl ?_
    refine q_ist7 rfl rfl rfl rfl ?_
    refine q_iload rfl rfl rfl ?_
    refine q_iload rfl rfl rfl ?_
    refine q_iushr rfl rfl (q_tn (z := 0) rfl ?_)
    refine q_iconst rfl rfl ?_
    refine q_iand rfl rfl (q_tn (z := 0) rfl ?_)
    refine q_ifeq rfl rfl (fun c37 => ?_) (fun c37 => absurd (by decide) c37)
    refine q_aload_n rfl rfl rfl ?_
    refine q_getf rfl rfl (by decide) rfl rfl ?_
    refine q_iload_n rfl rfl rfl ?_
    refine q_iconst rfl rfl ?_
    refine q_imul rfl rfl (q_tn (z := 0) rfl ?_)
    refine q_iload rfl rfl rfl ?_
    refine q_iadd rfl rfl (q_tn (z := 1) rfl ?_)
    refine q_iload rfl rfl rfl ?_
    refine q_iast rfl rfl (by decide) rfl (by decide) ?_
    refine q_icc6 (z := 2) rfl rfl rfl rfl rfl ?_
    refine q_goto rfl ?_
    refine q_iload rfl rfl rfl ?_
    refine q_iconst rfl rfl ?_
    refine q_icge rfl rfl (fun c38 => absurd c38 (by decide)) (fun c38 => ?_)
    refine q_iconst rfl rfl ?_
    refine q_ist7 rfl rfl rfl rfl ?_
    refine q_iload rfl rfl rfl ?_
    refine q_iload rfl rfl rfl ?_
    refine q_iushr rfl rfl (q_tn (z := 0) rfl ?_)
    refine q_iconst rfl rfl ?_
    refine q_iand rfl rfl (q_tn (z := 0) rfl ?_)
    refine q_ifeq rfl rfl (fun c39 => ?_) (fun c39 => absurd (by decide) c39)
    refine q_aload_n rfl rfl rfl ?_
    refine q_getf rfl rfl (by decide) rfl rfl ?_
    refine q_iload_n rfl rfl rfl ?_
    refine q_iconst rfl rfl ?_
    refine q_imul rfl rfl (q_tn (z := 0) rfl ?_)
    refine q_iload rfl rfl rfl ?_
    refine q_iadd rfl rfl (q_tn (z := 2) rfl ?_)
    refine q_iload rfl rfl rfl ?_
    refine q_iast rfl rfl (by decide) rfl (by decide) ?_
    refine q_icc6 (z := 3) rfl rfl rfl rfl rfl ?_
    refine q_goto rfl ?_
    refine q_iload rfl rfl rfl ?_
    refine q_iconst rfl rfl ?_
    refine q_icge rfl rfl (fun c40 => ?_) (fun c40 => absurd (by decide) c40)
    refine q_aload_n rfl rfl rfl ?_
    refine q_getf rfl rfl (by decide) rfl rfl ?_
    refine q_iload_n rfl rfl rfl ?_
    refine q_iload rfl rfl rfl ?_
    refine q_ifeq rfl rfl (fun c41 => ?_) (fun c41 => absurd (by decide) c41)
    refine q_aload_n rfl rfl rfl ?_
    refine q_lload_n rfl rfl rfl ?_
    refine q_nV1 rfl rfl (Or.inl rfl) rfl rfl rfl (by decide) rfl ⟨rfl, rfl⟩ rfl ?_
    change PQ _ _ _ mm_X6_isEnd 0 [.ref 7, .long 0, pm_un, pm_un] [] _ _ 0 0 _
    refine q_iconst rfl rfl ?_
    refine q_ist3n rfl rfl rfl rfl ?_
    refine q_iload_n rfl rfl rfl ?_
    refine q_aload_n rfl rfl rfl ?_
    refine q_getf rfl rfl (by decide) rfl rfl ?_
    refine q_getf rfl rfl (by decide) (FW_1 S hW) rfl ?_
    refine q_icge rfl rfl (fun c42 => absurd c42 (by decide)) (fun c42 => ?_)
    refine q_aload_n rfl rfl rfl ?_
    refine q_getf rfl rfl (by decide) rfl rfl ?_
    refine q_iload_n rfl rfl rfl ?_
    refine q_lload_n rfl rfl rfl ?_
    refine q_iload_n rfl rfl rfl ?_
    refine q_nS2 rfl rfl (Or.inl rfl) rfl rfl ⟨rfl, rfl⟩ rfl ?_
    change PQ _ _ _ mm_X0_position 0 [.long 0, pm_un, .int 0] [] _ _ 0 0 _
    refine q_lload_n rfl rfl rfl ?_
    refine q_bipush rfl rfl ?_
    refine q_iload_n rfl rfl rfl ?_
    refine q_imul rfl rfl (q_tn (z := 0) rfl ?_)
    refine q_lushr rfl rfl (q_tnl (z := 0) rfl ?_)
    refine q_l2i rfl rfl (q_tn (z := 0) rfl ?_)
    refine q_bipush rfl rfl ?_
    refine q_iand rfl rfl (q_tn (z := 0) rfl ?_)
    refine q_iret rfl rfl trivial ?_
    refine ⟨_, rfl, ?_⟩
    refine q_nV2 rfl rfl (Or.inl rfl) rfl rfl rfl (by decide) (FW_1 S hW) ⟨rfl, rfl⟩ rfl ?_
    change PQ _ _ _ mm_X8_cellOf 0 [.ref 1, .int 0, .int 0, pm_un] [] _ _ 0 0 _
    refine q_iload_n rfl rfl rfl ?_
    refine q_iflt rfl rfl (fun c43 => absurd c43 (by decide)) (fun c43 => ?_)
    refine q_iload_n rfl rfl rfl ?_
    refine q_aload_n rfl rfl rfl ?_
    refine q_getf rfl rfl (by decide) (FW_1 S hW) rfl ?_
    refine q_icge rfl rfl (fun c44 => absurd c44 (by decide)) (fun c44 => ?_)
    refine q_iload_n rfl rfl rfl ?_
    refine q_iflt rfl rfl (fun c45 => absurd c45 (by decide)) (fun c45 => ?_)
    refine q_iload_n rfl rfl rfl ?_
    refine q_aload_n rfl rfl rfl ?_
    refine q_getf rfl rfl (by decide) (FW_1 S hW) rfl ?_
    refine q_iload_n rfl rfl rfl ?_
    refine q_iald rfl rfl (by decide) (FW_3 S hW) (by decide) (q_tn (z := 0) rfl ?_)
    refine q_icge rfl rfl (fun c46 => ?_) (fun c46 => absurd (by decide) c46)
    refine q_iconst rfl rfl ?_
    refine q_ist3n rfl rfl rfl rfl ?_
    refine q_iload_n rfl rfl rfl ?_
    refine q_ifeq rfl rfl (fun c47 => ?_) (fun c47 => absurd (by decide) c47)
    refine q_iconst rfl rfl ?_
    refine q_iret rfl rfl trivial ?_
    refine ⟨_, rfl, ?_⟩
    refine q_iflt rfl rfl (fun c48 => ?_) (fun c48 => absurd (by decide) c48)
    refine q_icc3 (z := 1) rfl rfl rfl rfl rfl ?_
    refine q_goto rfl ?_
    refine q_iload_n rfl rfl rfl ?_
    refine q_aload_n rfl rfl rfl ?_
    refine q_getf rfl rfl (by decide) rfl rfl ?_
    refine q_getf rfl rfl (by decide) (FW_1 S hW) rfl ?_
    refine q_icge rfl rfl (fun c49 => ?_) (fun c49 => absurd (by decide) c49)
    refine q_iconst rfl rfl ?_
    refine q_iret rfl rfl rfl ?_
    refine ⟨_, rfl, ?_⟩
    refine q_ifeq rfl rfl (fun c50 => absurd c50 (by decide)) (fun c50 => ?_)
    refine q_iconst rfl rfl ?_
    refine q_goto rfl ?_
    refine q_iast rfl rfl (by decide) (FW_12 S hW) (by decide) ?_
    refine q_aload_n rfl rfl rfl ?_
    refine q_dupr rfl rfl ?_
    refine q_getf rfl rfl (by decide) rfl rfl ?_
    refine q_aload_n rfl rfl rfl ?_
    refine q_getf rfl rfl (by decide) rfl rfl ?_
    refine q_iload_n rfl rfl rfl ?_
    refine q_iald rfl rfl (by decide) rfl (by decide) (q_tn (z := 1) rfl ?_)
    refine q_iconst rfl rfl ?_
    refine q_iceq rfl rfl (fun c51 => absurd c51 (by decide)) (fun c51 => ?_)
    refine q_aload_n rfl rfl rfl ?_
    refine q_lload_n rfl rfl rfl ?_
    refine q_nV1 rfl rfl (Or.inl rfl) rfl rfl rfl (by decide) rfl ⟨rfl, rfl⟩ rfl ?_
    change PQ _ _ _ mm_X6_someFailed 0 [.ref 7, .long 0, pm_un, pm_un] [] _ _ 0 0 _
    refine q_iconst rfl rfl ?_
    refine q_ist3n rfl rfl rfl rfl ?_
    refine q_iload_n rfl rfl rfl ?_
    refine q_aload_n rfl rfl rfl ?_
    refine q_getf rfl rfl (by decide) rfl rfl ?_
    refine q_getf rfl rfl (by decide) (FW_1 S hW) rfl ?_
    refine q_icge rfl rfl (fun c52 => absurd c52 (by decide)) (fun c52 => ?_)
    refine q_lload_n rfl rfl rfl ?_
    refine q_iload_n rfl rfl rfl ?_
    refine q_nS2 rfl rfl (Or.inl rfl) rfl rfl ⟨rfl, rfl⟩ rfl ?_
    change PQ _ _ _ mm_X0_position 0 [.long 0, pm_un, .int 0] [] _ _ 0 0 _
    refine q_lload_n rfl rfl rfl ?_
    refine q_bipush rfl rfl ?_
    refine q_iload_n rfl rfl rfl ?_
    refine q_imul rfl rfl (q_tn (z := 0) rfl ?_)
    refine q_lushr rfl rfl (q_tnl (z := 0) rfl ?_)
    refine q_l2i rfl rfl (q_tn (z := 0) rfl ?_)
    refine q_bipush rfl rfl ?_
    refine q_iand rfl rfl (q_tn (z := 0) rfl ?_)
    refine q_iret rfl rfl trivial ?_
    refine ⟨_, rfl, ?_⟩
    refine q_bipush rfl rfl ?_
    refine q_icne rfl rfl (fun c53 => absurd c53 (by decide)) (fun c53 => ?_)
    refine q_icc3 (z := 1) rfl rfl rfl rfl rfl ?_
    refine q_goto rfl ?_
    refine q_iload_n rfl rfl rfl ?_
    refine q_aload_n rfl rfl rfl ?_
    refine q_getf rfl rfl (by decide) rfl rfl ?_
    refine q_getf rfl rfl (by decide) (FW_1 S hW) rfl ?_
    refine q_icge rfl rfl (fun c54 => ?_) (fun c54 => absurd (by decide) c54)
    refine q_iconst rfl rfl ?_
    refine q_iret rfl rfl rfl ?_
    refine ⟨_, rfl, ?_⟩
    refine q_ifeq rfl rfl (fun c55 => ?_) (fun c55 => absurd (by decide) c55)
    refine q_iconst rfl rfl ?_
    refine q_ior rfl rfl (q_tn (z := 0) rfl ?_)
    refine q_putf rfl rfl (by decide) rfl (by decide) rfl rfl ?_
    refine q_aload_n rfl rfl rfl ?_
    refine q_getf rfl rfl (by decide) rfl rfl ?_
    refine q_iload_n rfl rfl rfl ?_
    refine q_iald rfl rfl (by decide) rfl (by decide) (q_tn (z := 1) rfl ?_)
    refine q_iconst rfl rfl ?_
    refine q_icne rfl rfl (fun c56 => ?_) (fun c56 => absurd (by decide) c56)
    refine q_aload_n rfl rfl rfl ?_
    refine q_lload_n rfl rfl rfl ?_
    refine q_nV1v rfl rfl (Or.inl rfl) rfl rfl rfl (by decide) rfl ⟨rfl, rfl⟩ rfl ?_
    change PQ _ _ _ mm_X7_noteEnd 0 [.ref 8, .long 0, pm_un, pm_un] [] _ _ 0 0 _
    refine q_iconst rfl rfl ?_
    refine q_ist3n rfl rfl rfl rfl ?_
    refine q_iload_n rfl rfl rfl ?_
    refine q_iconst rfl rfl ?_
    refine q_icge rfl rfl (fun c57 => absurd c57 (by decide)) (fun c57 => ?_)
    refine q_aload_n rfl rfl rfl ?_
    refine q_dupr rfl rfl ?_
    refine q_getf rfl rfl (by decide) rfl rfl ?_
    refine q_lconst rfl rfl ?_
    refine q_bipush rfl rfl ?_
    refine q_iload_n rfl rfl rfl ?_
    refine q_imul rfl rfl (q_tn (z := 0) rfl ?_)
    refine q_lload_n rfl rfl rfl ?_
    refine q_iload_n rfl rfl rfl ?_
    refine q_nS2 rfl rfl (Or.inl rfl) rfl rfl ⟨rfl, rfl⟩ rfl ?_
    change PQ _ _ _ mm_X0_place 0 [.long 0, pm_un, .int 0] [] _ _ 0 0 _
    refine q_lload_n rfl rfl rfl ?_
    refine q_bipush rfl rfl ?_
    refine q_iconst rfl rfl ?_
    refine q_iload_n rfl rfl rfl ?_
    refine q_imul rfl rfl (q_tn (z := 0) rfl ?_)
    refine q_iadd rfl rfl (q_tn (z := 36) rfl ?_)
    refine q_lushr rfl rfl (q_tnl (z := 0) rfl ?_)
    refine q_l2i rfl rfl (q_tn (z := 0) rfl ?_)
    refine q_bipush rfl rfl ?_
    refine q_iand rfl rfl (q_tn (z := 0) rfl ?_)
    refine q_iret rfl rfl trivial ?_
    refine ⟨_, rfl, ?_⟩
    refine q_iadd rfl rfl (q_tn (z := 0) rfl ?_)
    refine q_lshl rfl rfl (q_tnl (z := 1) rfl ?_)
    refine q_lor rfl rfl (q_tnl (z := 1) rfl ?_)
    refine q_putf rfl rfl (by decide) rfl (by decide) rfl trivial ?_
    refine q_icc3 (z := 1) rfl rfl rfl rfl rfl ?_
    refine q_goto rfl ?_
    refine q_iload_n rfl rfl rfl ?_
    refine q_iconst rfl rfl ?_
    refine q_icge rfl rfl (fun c58 => absurd c58 (by decide)) (fun c58 => ?_)
    refine q_aload_n rfl rfl rfl ?_
    refine q_dupr rfl rfl ?_
    refine q_getf rfl rfl (by decide) rfl rfl ?_
    refine q_lconst rfl rfl ?_
    refine q_bipush rfl rfl ?_
    refine q_iload_n rfl rfl rfl ?_
    refine q_imul rfl rfl (q_tn (z := 10) rfl ?_)
    refine q_lload_n rfl rfl rfl ?_
    refine q_iload_n rfl rfl rfl ?_
    refine q_nS2 rfl rfl (Or.inl rfl) rfl rfl ⟨rfl, rfl⟩ rfl ?_
    change PQ _ _ _ mm_X0_place 0 [.long 0, pm_un, .int 1] [] _ _ 0 0 _
    refine q_lload_n rfl rfl rfl ?_
    refine q_bipush rfl rfl ?_
    refine q_iconst rfl rfl ?_
    refine q_iload_n rfl rfl rfl ?_
    refine q_imul rfl rfl (q_tn (z := 4) rfl ?_)
    refine q_iadd rfl rfl (q_tn (z := 40) rfl ?_)
    refine q_lushr rfl rfl (q_tnl (z := 0) rfl ?_)
    refine q_l2i rfl rfl (q_tn (z := 0) rfl ?_)
    refine q_bipush rfl rfl ?_
    refine q_iand rfl rfl (q_tn (z := 0) rfl ?_)
    refine q_iret rfl rfl trivial ?_
    refine ⟨_, rfl, ?_⟩
    refine q_iadd rfl rfl (q_tn (z := 10) rfl ?_)
    refine q_lshl rfl rfl (q_tnl (z := 1024) rfl ?_)
    refine q_lor rfl rfl (q_tnl (z := 1025) rfl ?_)
    refine q_putf rfl rfl (by decide) rfl (by decide) rfl trivial ?_
    refine q_icc3 (z := 2) rfl rfl rfl rfl rfl ?_
    refine q_goto rfl ?_
    refine q_iload_n rfl rfl rfl ?_
    refine q_iconst rfl rfl ?_
    refine q_icge rfl rfl (fun c59 => absurd c59 (by decide)) (fun c59 => ?_)
    refine q_aload_n rfl rfl rfl ?_
    refine q_dupr rfl rfl ?_
    refine q_getf rfl rfl (by decide) rfl rfl ?_
    refine q_lconst rfl rfl ?_
    refine q_bipush rfl rfl ?_
    refine q_iload_n rfl rfl rfl ?_
    refine q_imul rfl rfl (q_tn (z := 20) rfl ?_)
    refine q_lload_n rfl rfl rfl ?_
    refine q_iload_n rfl rfl rfl ?_
    refine q_nS2 rfl rfl (Or.inl rfl) rfl rfl ⟨rfl, rfl⟩ rfl ?_
    change PQ _ _ _ mm_X0_place 0 [.long 0, pm_un, .int 2] [] _ _ 0 0 _
    refine q_lload_n rfl rfl rfl ?_
    refine q_bipush rfl rfl ?_
    refine q_iconst rfl rfl ?_
    refine q_iload_n rfl rfl rfl ?_
    refine q_imul rfl rfl (q_tn (z := 8) rfl ?_)
    refine q_iadd rfl rfl (q_tn (z := 44) rfl ?_)
    refine q_lushr rfl rfl (q_tnl (z := 0) rfl ?_)
    refine q_l2i rfl rfl (q_tn (z := 0) rfl ?_)
    refine q_bipush rfl rfl ?_
    refine q_iand rfl rfl (q_tn (z := 0) rfl ?_)
    refine q_iret rfl rfl trivial ?_
    refine ⟨_, rfl, ?_⟩
    refine q_iadd rfl rfl (q_tn (z := 20) rfl ?_)
    refine q_lshl rfl rfl (q_tnl (z := 1048576) rfl ?_)
    refine q_lor rfl rfl (q_tnl (z := 1049601) rfl ?_)
    refine q_putf rfl rfl (by decide) rfl (by decide) rfl trivial ?_
    refine q_icc3 (z := 3) rfl rfl rfl rfl rfl ?_
    refine q_goto rfl ?_
    refine q_iload_n rfl rfl rfl ?_
    refine q_iconst rfl rfl ?_
    refine q_icge rfl rfl (fun c60 => absurd c60 (by decide)) (fun c60 => ?_)
    refine q_aload_n rfl rfl rfl ?_
    refine q_dupr rfl rfl ?_
    refine q_getf rfl rfl (by decide) rfl rfl ?_
    refine q_lconst rfl rfl ?_
    refine q_bipush rfl rfl ?_
    refine q_iload_n rfl rfl rfl ?_
    refine q_imul rfl rfl (q_tn (z := 30) rfl ?_)
    refine q_lload_n rfl rfl rfl ?_
    refine q_iload_n rfl rfl rfl ?_
    refine q_nS2 rfl rfl (Or.inl rfl) rfl rfl ⟨rfl, rfl⟩ rfl ?_
    change PQ _ _ _ mm_X0_place 0 [.long 0, pm_un, .int 3] [] _ _ 0 0 _
    refine q_lload_n rfl rfl rfl ?_
    refine q_bipush rfl rfl ?_
    refine q_iconst rfl rfl ?_
    refine q_iload_n rfl rfl rfl ?_
    refine q_imul rfl rfl (q_tn (z := 12) rfl ?_)
    refine q_iadd rfl rfl (q_tn (z := 48) rfl ?_)
    refine q_lushr rfl rfl (q_tnl (z := 0) rfl ?_)
    refine q_l2i rfl rfl (q_tn (z := 0) rfl ?_)
    refine q_bipush rfl rfl ?_
    refine q_iand rfl rfl (q_tn (z := 0) rfl ?_)
    refine q_iret rfl rfl trivial ?_
    refine ⟨_, rfl, ?_⟩
    refine q_iadd rfl rfl (q_tn (z := 30) rfl ?_)
    refine q_lshl rfl rfl (q_tnl (z := 1073741824) rfl ?_)
    refine q_lor rfl rfl (q_tnl (z := 1074791425) rfl ?_)
    refine q_putf rfl rfl (by decide) rfl (by decide) rfl trivial ?_
    refine q_icc3 (z := 4) rfl rfl rfl rfl rfl ?_
    refine q_goto rfl ?_
    refine q_iload_n rfl rfl rfl ?_
    refine q_iconst rfl rfl ?_
    refine q_icge rfl rfl (fun c61 => ?_) (fun c61 => absurd (by decide) c61)
    refine q_ret rfl rfl ?_
    refine ⟨rfl, ?_⟩
    refine q_ret rfl rfl ?_
    refine ⟨rfl, ?_⟩
    refine q_aload_n rfl rfl rfl ?_
    refine q_getf rfl rfl (by decide) rfl rfl ?_
    refine q_ifne rfl rfl (fun c62 => ?_) (fun c62 => absurd (by decide) c62)
    refine q_iload_n rfl rfl rfl ?_
    refine q_ifeq rfl rfl (fun c63 => ?_) (fun c63 => absurd (by decide) c63)
    refine q_icc3 (z := 1) rfl rfl rfl rfl rfl ?_
    refine q_goto rfl ?_
    refine q_iload_n rfl rfl rfl ?_
    refine q_sipush rfl rfl ?_
    refine q_icge rfl rfl (fun c64 => absurd c64 (by decide)) (fun c64 => ?_)
    refine q_iload_n rfl rfl rfl ?_
    refine q_aload_n rfl rfl rfl ?_
    refine q_getf rfl rfl (by decide) rfl rfl ?_
    refine q_icge rfl rfl (fun c65 => ?_) (fun c65 => absurd (by decide) c65)
    refine q_ret rfl rfl ?_
    refine ⟨rfl, ?_⟩
    refine q_aload_n rfl rfl rfl ?_
    refine q_getf rfl rfl (by decide) (FW_0 S hW) rfl ?_
    refine q_iconst rfl rfl ?_
    refine q_putf rfl rfl (by decide) rfl (by decide) rfl trivial ?_
    refine q_aload_n rfl rfl rfl ?_
    refine q_getf rfl rfl (by decide) (FW_0 S hW) rfl ?_
    refine q_iload_n rfl rfl rfl ?_
    refine q_aload_n rfl rfl rfl ?_
    refine q_getf rfl rfl (by decide) rfl rfl ?_
    refine q_ifeq rfl rfl (fun c66 => ?_) (fun c66 => absurd (by decide) c66)
    refine q_aload_n rfl rfl rfl ?_
    refine q_getf rfl rfl (by decide) rfl rfl ?_
    refine q_iast rfl rfl (by decide) (FW_44 S hW) (by decide) ?_
    refine q_aload_n rfl rfl rfl ?_
    refine q_getf rfl rfl (by decide) (FW_0 S hW) rfl ?_
    refine q_iload_n rfl rfl rfl ?_
    refine q_aload_n rfl rfl rfl ?_
    refine q_getf rfl rfl (by decide) rfl rfl ?_
    refine q_last rfl rfl (by decide) (FW_45 S hW) (by decide) ?_
    refine q_aload_n rfl rfl rfl ?_
    refine q_getf rfl rfl (by decide) (FW_0 S hW) rfl ?_
    refine q_iload_n rfl rfl rfl ?_
    refine q_iald rfl rfl (by decide) rfl (by decide) (q_tn (z := 1) rfl ?_)
    refine q_iret rfl rfl trivial ?_
    refine ⟨_, rfl, ?_⟩
    refine q_ist2n rfl rfl rfl rfl ?_
    refine q_iload_n rfl rfl rfl ?_
    refine q_bipush rfl rfl ?_
    refine q_icne rfl rfl (fun c67 => absurd c67 (by decide)) (fun c67 => ?_)
    refine q_iload_n rfl rfl rfl ?_
    refine q_iload_n rfl rfl rfl ?_
    refine q_iclt rfl rfl (fun c68 => ?_) (fun c68 => ?_)
    · have e68 : x1 = 0 := Int32.le_antisymm (i_ltle c68 (B := 0) rfl) c1
      subst e68
      refine q_iconst rfl rfl ?_
      refine q_iret rfl rfl trivial ?_
      refine ⟨_, rfl, ?_⟩
      refine q_ist2n rfl rfl rfl rfl ?_
      refine q_iload_n rfl rfl rfl ?_
      refine q_ifeq rfl rfl (fun c69 => ?_) (fun c69 => absurd (by decide) c69)
      refine q_aload_n rfl rfl rfl ?_
      refine q_aload_n rfl rfl rfl ?_
      refine q_getf rfl rfl (by decide) (FW_0 S hW) rfl ?_
      refine q_iload_n rfl rfl rfl ?_
      refine q_nV1 rfl rfl (Or.inl rfl) rfl rfl rfl (by decide) rfl ⟨rfl, rfl⟩ rfl ?_
      change PQ _ _ _ mm_X7_stateAt 0 [.ref 8, .int 0] [] _ _ 0 0 _
      refine q_iload_n rfl rfl rfl ?_
      refine q_aload_n rfl rfl rfl ?_
      refine q_getf rfl rfl (by decide) rfl rfl ?_
      refine q_nS2 rfl rfl (Or.inr rfl) rfl rfl ⟨rfl, rfl⟩ rfl ?_
      change PQ _ _ _ mm_X11_within 0 [.int 0, .int 1] [] _ _ 0 0 _
      refine q_iload_n rfl rfl rfl ?_
      refine q_iflt rfl rfl (fun c70 => absurd c70 (by decide)) (fun c70 => ?_)
      refine q_iload_n rfl rfl rfl ?_
      refine q_iload_n rfl rfl rfl ?_
      refine q_icge rfl rfl (fun c71 => absurd c71 (by decide)) (fun c71 => ?_)
      refine q_iconst rfl rfl ?_
      refine q_goto rfl ?_
      refine q_iret rfl rfl rfl ?_
      refine ⟨_, rfl, ?_⟩
      refine q_ifeq rfl rfl (fun c72 => absurd c72 (by decide)) (fun c72 => ?_)
      refine q_aload_n rfl rfl rfl ?_
      refine q_getf rfl rfl (by decide) rfl rfl ?_
      refine q_iload_n rfl rfl rfl ?_
      refine q_lald rfl rfl (by decide) rfl (by decide) (q_tnl (z := 0) rfl ?_)
      refine q_goto rfl ?_
      refine q_lret rfl rfl trivial ?_
      refine ⟨_, rfl, ?_⟩
      refine q_nV1 rfl rfl (Or.inl rfl) rfl rfl rfl (by decide) (FW_0 S hW) ⟨rfl, rfl⟩ rfl ?_
      change PQ _ _ _ mm_X11_movedRunTo 0 [.ref 0, .long 0, pm_un] [] _ _ 0 0 _
      refine q_aload_n rfl rfl rfl ?_
      refine q_getf rfl rfl (by decide) (FW_0 S hW) rfl ?_
      refine q_lload_n rfl rfl rfl ?_
      refine q_lcmp rfl rfl (q_tn (z := 0) rfl ?_)
      refine q_ifne rfl rfl (fun c73 => ?_) (fun c73 => absurd (by decide) c73)
      refine q_iconst rfl rfl ?_
      refine q_iret rfl rfl trivial ?_
      refine ⟨_, rfl, ?_⟩
      refine q_iret rfl rfl trivial ?_
      refine ⟨_, rfl, ?_⟩
      refine q_aload_n rfl rfl rfl ?_
      refine q_aload_nF rfl rfl rfl ?_
      refine q_iload rfl rfl rfl ?_
      refine q_iconst rfl rfl ?_
      refine q_iadd rfl rfl (q_tn (z := 1) rfl ?_)
      refine q_ialdX (x := 0) rfl rfl rfl hx1 ?_
      refine q_nV1 rfl rfl (Or.inl rfl) rfl rfl rfl (by decide) (FW_46 S hW) ⟨rfl, rfl⟩ rfl ?_
      change PQ _ _ _ mm_X12_lead 0 [.ref 46, .int 0] [] _ _ 0 0 _
      refine q_aload_n rfl rfl rfl ?_
      refine q_iload_n rfl rfl rfl ?_
      refine q_nV1 rfl rfl (Or.inl rfl) rfl rfl rfl (by decide) (FW_46 S hW) ⟨rfl, rfl⟩ rfl ?_
      change PQ _ _ _ mm_X12_lacks 0 [.ref 46, .int 0] [] _ _ 0 0 _
      refine q_iload_n rfl rfl rfl ?_
      refine q_ifge rfl rfl (fun c74 => ?_) (fun c74 => absurd (by decide) c74)
      refine q_aload_n rfl rfl rfl ?_
      refine q_iconst rfl rfl ?_
      refine q_nV1 rfl rfl (Or.inl rfl) rfl rfl rfl (by decide) (FW_46 S hW) ⟨rfl, rfl⟩ rfl ?_
      change PQ _ _ _ mm_X12_isSpent 0 [.ref 46, .int 0, pm_un, pm_un, pm_un] [] _ _ 0 0 _
      refine q_iload_n rfl rfl rfl ?_
      refine q_ifne rfl rfl (fun c75 => ?_) (fun c75 => absurd (by decide) c75)
      refine q_iconst rfl rfl ?_
      refine q_goto rfl ?_
      refine q_ist2n rfl rfl rfl rfl ?_
      refine q_aload_n rfl rfl rfl ?_
      refine q_iconst rfl rfl ?_
      refine q_putf rfl rfl (by decide) (FW_46 S hW) (by decide) rfl trivial ?_
      refine q_aload_n rfl rfl rfl ?_
      refine q_getf rfl rfl (by decide) rfl rfl ?_
      refine q_iload_n rfl rfl rfl ?_
      refine q_iald rfl rfl (by decide) (FW_62 S hW) (by decide) (q_tn (z := 0) rfl ?_)
      refine q_ifeq rfl rfl (fun c76 => ?_) (fun c76 => absurd (by decide) c76)
      refine q_aload_n rfl rfl rfl ?_
      refine q_getf rfl rfl (by decide) rfl rfl ?_
      refine q_iload_n rfl rfl rfl ?_
      refine q_aload_n rfl rfl rfl ?_
      refine q_iload_n rfl rfl rfl ?_
      refine q_iload_n rfl rfl rfl ?_
      refine q_nV2 rfl rfl (Or.inl rfl) rfl rfl rfl (by decide) rfl ⟨rfl, rfl⟩ rfl ?_
      change PQ _ _ _ mm_X12_explore 0 [.ref 46, .int 0, .int 0, pm_un, pm_un, pm_un, pm_un, pm_un] [] _ _ 0 0 _
      refine q_iconst rfl rfl ?_
      refine q_ist3n rfl rfl rfl rfl ?_
      refine l_net (R := 0) (by decide) rfl (by decide) rfl rfl (FW_61 S hW) ?_
      refine q_aload_n rfl rfl rfl ?_
      refine q_getf rfl rfl (by decide) rfl rfl ?_
      refine q_iload_n rfl rfl rfl ?_
      refine q_iconst rfl rfl ?_
      refine q_iast rfl rfl (by decide) (FW_60 S hW) (by decide) ?_
      refine q_aload_n rfl rfl rfl ?_
      refine q_nV0v rfl rfl (Or.inl rfl) rfl rfl rfl (by decide) rfl ⟨rfl, rfl⟩ rfl ?_
      change PQ _ _ _ mm_X12_firstState 0 [.ref 46, pm_un] [] _ _ 0 0 _
      refine q_iconst rfl rfl ?_
      refine q_ist1n rfl rfl rfl rfl ?_
      refine q_iload_n rfl rfl rfl ?_
      refine q_bipush rfl rfl ?_
      refine q_icge rfl rfl (fun c77 => absurd c77 (by decide)) (fun c77 => ?_)
      refine q_aload_n rfl rfl rfl ?_
      refine q_getf rfl rfl (by decide) rfl rfl ?_
      refine q_iload_n rfl rfl rfl ?_
      refine q_iconst rfl rfl ?_
      refine q_iast rfl rfl (by decide) (FW_52 S hW) (by decide) ?_
      refine q_icc1 (z := 1) rfl rfl rfl rfl rfl ?_
      refine q_goto rfl ?_
      refine q_iload_n rfl rfl rfl ?_
      refine q_bipush rfl rfl ?_
      refine q_icge rfl rfl (fun c78 => absurd c78 (by decide)) (fun c78 => ?_)
      refine q_aload_n rfl rfl rfl ?_
      refine q_getf rfl rfl (by decide) rfl rfl ?_
      refine q_iload_n rfl rfl rfl ?_
      refine q_iconst rfl rfl ?_
      refine q_iast rfl rfl (by decide) rfl (by decide) ?_
      refine q_icc1 (z := 2) rfl rfl rfl rfl rfl ?_
      refine q_goto rfl ?_
      refine q_iload_n rfl rfl rfl ?_
      refine q_bipush rfl rfl ?_
      refine q_icge rfl rfl (fun c79 => absurd c79 (by decide)) (fun c79 => ?_)
      refine q_aload_n rfl rfl rfl ?_
      refine q_getf rfl rfl (by decide) rfl rfl ?_
      refine q_iload_n rfl rfl rfl ?_
      refine q_iconst rfl rfl ?_
      refine q_iast rfl rfl (by decide) rfl (by decide) ?_
      refine q_icc1 (z := 3) rfl rfl rfl rfl rfl ?_
      refine q_goto rfl ?_
      refine q_iload_n rfl rfl rfl ?_
      refine q_bipush rfl rfl ?_
      refine q_icge rfl rfl (fun c80 => absurd c80 (by decide)) (fun c80 => ?_)
      refine q_aload_n rfl rfl rfl ?_
      refine q_getf rfl rfl (by decide) rfl rfl ?_
      refine q_iload_n rfl rfl rfl ?_
      refine q_iconst rfl rfl ?_
      refine q_iast rfl rfl (by decide) rfl (by decide) ?_
      refine q_icc1 (z := 4) rfl rfl rfl rfl rfl ?_
      refine q_goto rfl ?_
      refine q_iload_n rfl rfl rfl ?_
      refine q_bipush rfl rfl ?_
      refine q_icge rfl rfl (fun c81 => absurd c81 (by decide)) (fun c81 => ?_)
      refine q_aload_n rfl rfl rfl ?_
      refine q_getf rfl rfl (by decide) rfl rfl ?_
      refine q_iload_n rfl rfl rfl ?_
      refine q_iconst rfl rfl ?_
      refine q_iast rfl rfl (by decide) rfl (by decide) ?_
      refine q_icc1 (z := 5) rfl rfl rfl rfl rfl ?_
      refine q_goto rfl ?_
      refine q_iload_n rfl rfl rfl ?_
      refine q_bipush rfl rfl ?_
      refine q_icge rfl rfl (fun c82 => absurd c82 (by decide)) (fun c82 => ?_)
      refine q_aload_n rfl rfl rfl ?_
      refine q_getf rfl rfl (by decide) rfl rfl ?_
      refine q_iload_n rfl rfl rfl ?_
      refine q_iconst rfl rfl ?_
      refine q_iast rfl rfl (by decide) rfl (by decide) ?_
      refine q_icc1 (z := 6) rfl rfl rfl rfl rfl ?_
      refine q_goto rfl ?_
      refine q_iload_n rfl rfl rfl ?_
      refine q_bipush rfl rfl ?_
      refine q_icge rfl rfl (fun c83 => absurd c83 (by decide)) (fun c83 => ?_)
      refine q_aload_n rfl rfl rfl ?_
      refine q_getf rfl rfl (by decide) rfl rfl ?_
      refine q_iload_n rfl rfl rfl ?_
      refine q_iconst rfl rfl ?_
      refine q_iast rfl rfl (by decide) rfl (by decide) ?_
      refine q_icc1 (z := 7) rfl rfl rfl rfl rfl ?_
      refine q_goto rfl ?_
      refine q_iload_n rfl rfl rfl ?_
      refine q_bipush rfl rfl ?_
      refine q_icge rfl rfl (fun c84 => absurd c84 (by decide)) (fun c84 => ?_)
      refine q_aload_n rfl rfl rfl ?_
      refine q_getf rfl rfl (by decide) rfl rfl ?_
      refine q_iload_n rfl rfl rfl ?_
      refine q_iconst rfl rfl ?_
      refine q_iast rfl rfl (by decide) rfl (by decide) ?_
      refine q_icc1 (z := 8) rfl rfl rfl rfl rfl ?_
      refine q_goto rfl ?_
      refine q_iload_n rfl rfl rfl ?_
      refine q_bipush rfl rfl ?_
      refine q_icge rfl rfl (fun c85 => absurd c85 (by decide)) (fun c85 => ?_)
      refine q_aload_n rfl rfl rfl ?_
      refine q_getf rfl rfl (by decide) rfl rfl ?_
      refine q_iload_n rfl rfl rfl ?_
      refine q_iconst rfl rfl ?_
      refine q_iast rfl rfl (by decide) rfl (by decide) ?_
      refine q_icc1 (z := 9) rfl rfl rfl rfl rfl ?_
      refine q_goto rfl ?_
      refine q_iload_n rfl rfl rfl ?_
      refine q_bipush rfl rfl ?_
      refine q_icge rfl rfl (fun c86 => absurd c86 (by decide)) (fun c86 => ?_)
      refine q_aload_n rfl rfl rfl ?_
      refine q_getf rfl rfl (by decide) rfl rfl ?_
      refine q_iload_n rfl rfl rfl ?_
      refine q_iconst rfl rfl ?_
      refine q_iast rfl rfl (by decide) rfl (by decide) ?_
      refine q_icc1 (z := 10) rfl rfl rfl rfl rfl ?_
      refine q_goto rfl ?_
      refine q_iload_n rfl rfl rfl ?_
      refine q_bipush rfl rfl ?_
      refine q_icge rfl rfl (fun c87 => absurd c87 (by decide)) (fun c87 => ?_)
      refine q_aload_n rfl rfl rfl ?_
      refine q_getf rfl rfl (by decide) rfl rfl ?_
      refine q_iload_n rfl rfl rfl ?_
      refine q_iconst rfl rfl ?_
      refine q_iast rfl rfl (by decide) rfl (by decide) ?_
      refine q_icc1 (z := 11) rfl rfl rfl rfl rfl ?_
      refine q_goto rfl ?_
      refine q_iload_n rfl rfl rfl ?_
      refine q_bipush rfl rfl ?_
      refine q_icge rfl rfl (fun c88 => absurd c88 (by decide)) (fun c88 => ?_)
      refine q_aload_n rfl rfl rfl ?_
      refine q_getf rfl rfl (by decide) rfl rfl ?_
      refine q_iload_n rfl rfl rfl ?_
      refine q_iconst rfl rfl ?_
      refine q_iast rfl rfl (by decide) rfl (by decide) ?_
      refine q_icc1 (z := 12) rfl rfl rfl rfl rfl ?_
      refine q_goto rfl ?_
      refine q_iload_n rfl rfl rfl ?_
      refine q_bipush rfl rfl ?_
      refine q_icge rfl rfl (fun c89 => absurd c89 (by decide)) (fun c89 => ?_)
      refine q_aload_n rfl rfl rfl ?_
      refine q_getf rfl rfl (by decide) rfl rfl ?_
      refine q_iload_n rfl rfl rfl ?_
      refine q_iconst rfl rfl ?_
      refine q_iast rfl rfl (by decide) rfl (by decide) ?_
      refine q_icc1 (z := 13) rfl rfl rfl rfl rfl ?_
      refine q_goto rfl ?_
      refine q_iload_n rfl rfl rfl ?_
      refine q_bipush rfl rfl ?_
      refine q_icge rfl rfl (fun c90 => absurd c90 (by decide)) (fun c90 => ?_)
      refine q_aload_n rfl rfl rfl ?_
      refine q_getf rfl rfl (by decide) rfl rfl ?_
      refine q_iload_n rfl rfl rfl ?_
      refine q_iconst rfl rfl ?_
      refine q_iast rfl rfl (by decide) rfl (by decide) ?_
      refine q_icc1 (z := 14) rfl rfl rfl rfl rfl ?_
      refine q_goto rfl ?_
      refine q_iload_n rfl rfl rfl ?_
      refine q_bipush rfl rfl ?_
      refine q_icge rfl rfl (fun c91 => absurd c91 (by decide)) (fun c91 => ?_)
      refine q_aload_n rfl rfl rfl ?_
      refine q_getf rfl rfl (by decide) rfl rfl ?_
      refine q_iload_n rfl rfl rfl ?_
      refine q_iconst rfl rfl ?_
      refine q_iast rfl rfl (by decide) rfl (by decide) ?_
      refine q_icc1 (z := 15) rfl rfl rfl rfl rfl ?_
      refine q_goto rfl ?_
      refine q_iload_n rfl rfl rfl ?_
      refine q_bipush rfl rfl ?_
      refine q_icge rfl rfl (fun c92 => absurd c92 (by decide)) (fun c92 => ?_)
      refine q_aload_n rfl rfl rfl ?_
      refine q_getf rfl rfl (by decide) rfl rfl ?_
      refine q_iload_n rfl rfl rfl ?_
      refine q_iconst rfl rfl ?_
      refine q_iast rfl rfl (by decide) rfl (by decide) ?_
      refine q_icc1 (z := 16) rfl rfl rfl rfl rfl ?_
      refine q_goto rfl ?_
      refine q_iload_n rfl rfl rfl ?_
      refine q_bipush rfl rfl ?_
      refine q_icge rfl rfl (fun c93 => absurd c93 (by decide)) (fun c93 => ?_)
      refine q_aload_n rfl rfl rfl ?_
      refine q_getf rfl rfl (by decide) rfl rfl ?_
      refine q_iload_n rfl rfl rfl ?_
      refine q_iconst rfl rfl ?_
      refine q_iast rfl rfl (by decide) rfl (by decide) ?_
      refine q_icc1 (z := 17) rfl rfl rfl rfl rfl ?_
      refine q_goto rfl ?_
      refine q_iload_n rfl rfl rfl ?_
      refine q_bipush rfl rfl ?_
      refine q_icge rfl rfl (fun c94 => absurd c94 (by decide)) (fun c94 => ?_)
      refine q_aload_n rfl rfl rfl ?_
      refine q_getf rfl rfl (by decide) rfl rfl ?_
      refine q_iload_n rfl rfl rfl ?_
      refine q_iconst rfl rfl ?_
      refine q_iast rfl rfl (by decide) rfl (by decide) ?_
      refine q_icc1 (z := 18) rfl rfl rfl rfl rfl ?_
      refine q_goto rfl ?_
      refine q_iload_n rfl rfl rfl ?_
      refine q_bipush rfl rfl ?_
      refine q_icge rfl rfl (fun c95 => absurd c95 (by decide)) (fun c95 => ?_)
      refine q_aload_n rfl rfl rfl ?_
      refine q_getf rfl rfl (by decide) rfl rfl ?_
      refine q_iload_n rfl rfl rfl ?_
      refine q_iconst rfl rfl ?_
      refine q_iast rfl rfl (by decide) rfl (by decide) ?_
      refine q_icc1 (z := 19) rfl rfl rfl rfl rfl ?_
      refine q_goto rfl ?_
      refine q_iload_n rfl rfl rfl ?_
      refine q_bipush rfl rfl ?_
      refine q_icge rfl rfl (fun c96 => absurd c96 (by decide)) (fun c96 => ?_)
      refine q_aload_n rfl rfl rfl ?_
      refine q_getf rfl rfl (by decide) rfl rfl ?_
      refine q_iload_n rfl rfl rfl ?_
      refine q_iconst rfl rfl ?_
      refine q_iast rfl rfl (by decide) rfl (by decide) ?_
      refine q_icc1 (z := 20) rfl rfl rfl rfl rfl ?_
      refine q_goto rfl ?_
      refine q_iload_n rfl rfl rfl ?_
      refine q_bipush rfl rfl ?_
      refine q_icge rfl rfl (fun c97 => ?_) (fun c97 => absurd (by decide) c97)
      refine q_iconst rfl rfl ?_
      refine q_ist1n rfl rfl rfl rfl ?_
      refine q_iload_n rfl rfl rfl ?_
      refine q_aload_n rfl rfl rfl ?_
      refine q_getf rfl rfl (by decide) rfl rfl ?_
      refine q_icge rfl rfl (fun c98 => absurd c98 (by decide)) (fun c98 => ?_)
      refine q_aload_n rfl rfl rfl ?_
      refine q_getf rfl rfl (by decide) rfl rfl ?_
      refine q_iconst rfl rfl ?_
      refine q_iload_n rfl rfl rfl ?_
      refine q_imul rfl rfl (q_tn (z := 0) rfl ?_)
      refine q_aload_n rfl rfl rfl ?_
      refine q_getf rfl rfl (by decide) rfl rfl ?_
      refine q_aload_n rfl rfl rfl ?_
      refine q_getf rfl rfl (by decide) rfl rfl ?_
      refine q_iload_n rfl rfl rfl ?_
      refine q_iadd rfl rfl (q_tn (z := 0) rfl ?_)
      refine q_iald rfl rfl (by decide) (FW_47 S hW) (by decide) (q_tn (z := 0) rfl ?_)
      refine q_ifne rfl rfl (fun c99 => ?_) (fun c99 => absurd (by decide) c99)
      refine q_bipush rfl rfl ?_
      refine q_goto rfl ?_
      refine q_iast rfl rfl (by decide) rfl (by decide) ?_
      refine q_icc1 (z := 1) rfl rfl rfl rfl rfl ?_
      refine q_goto rfl ?_
      refine q_iload_n rfl rfl rfl ?_
      refine q_aload_n rfl rfl rfl ?_
      refine q_getf rfl rfl (by decide) rfl rfl ?_
      refine q_icge rfl rfl (fun c100 => ?_) (fun c100 => absurd (by decide) c100)
      refine q_iconst rfl rfl ?_
      refine q_ist1n rfl rfl rfl rfl ?_
      refine q_iload_n rfl rfl rfl ?_
      refine q_iconst rfl rfl ?_
      refine q_icge rfl rfl (fun c101 => absurd c101 (by decide)) (fun c101 => ?_)
      refine q_aload_n rfl rfl rfl ?_
      refine q_getf rfl rfl (by decide) rfl rfl ?_
      refine q_bipush rfl rfl ?_
      refine q_iload_n rfl rfl rfl ?_
      refine q_iadd rfl rfl (q_tn (z := 12) rfl ?_)
      refine q_aload_n rfl rfl rfl ?_
      refine q_getf rfl rfl (by decide) rfl rfl ?_
      refine q_iload_n rfl rfl rfl ?_
      refine q_iald rfl rfl (by decide) (FW_51 S hW) (by decide) (q_tn (z := 0) rfl ?_)
      refine q_iast rfl rfl (by decide) rfl (by decide) ?_
      refine q_icc1 (z := 1) rfl rfl rfl rfl rfl ?_
      refine q_goto rfl ?_
      refine q_iload_n rfl rfl rfl ?_
      refine q_iconst rfl rfl ?_
      refine q_icge rfl rfl (fun c102 => absurd c102 (by decide)) (fun c102 => ?_)
      refine q_aload_n rfl rfl rfl ?_
      refine q_getf rfl rfl (by decide) rfl rfl ?_
      refine q_bipush rfl rfl ?_
      refine q_iload_n rfl rfl rfl ?_
      refine q_iadd rfl rfl (q_tn (z := 13) rfl ?_)
      refine q_aload_n rfl rfl rfl ?_
      refine q_getf rfl rfl (by decide) rfl rfl ?_
      refine q_iload_n rfl rfl rfl ?_
      refine q_iald rfl rfl (by decide) (FW_51 S hW) (by decide) (q_tn (z := 0) rfl ?_)
      refine q_iast rfl rfl (by decide) rfl (by decide) ?_
      refine q_icc1 (z := 2) rfl rfl rfl rfl rfl ?_
      refine q_goto rfl ?_
      refine q_iload_n rfl rfl rfl ?_
      refine q_iconst rfl rfl ?_
      refine q_icge rfl rfl (fun c103 => absurd c103 (by decide)) (fun c103 => ?_)
      refine q_aload_n rfl rfl rfl ?_
      refine q_getf rfl rfl (by decide) rfl rfl ?_
      refine q_bipush rfl rfl ?_
      refine q_iload_n rfl rfl rfl ?_
      refine q_iadd rfl rfl (q_tn (z := 14) rfl ?_)
      refine q_aload_n rfl rfl rfl ?_
      refine q_getf rfl rfl (by decide) rfl rfl ?_
      refine q_iload_n rfl rfl rfl ?_
      refine q_iald rfl rfl (by decide) (FW_51 S hW) (by decide) (q_tn (z := 0) rfl ?_)
      refine q_iast rfl rfl (by decide) rfl (by decide) ?_
      refine q_icc1 (z := 3) rfl rfl rfl rfl rfl ?_
      refine q_goto rfl ?_
      refine q_iload_n rfl rfl rfl ?_
      refine q_iconst rfl rfl ?_
      refine q_icge rfl rfl (fun c104 => absurd c104 (by decide)) (fun c104 => ?_)
      refine q_aload_n rfl rfl rfl ?_
      refine q_getf rfl rfl (by decide) rfl rfl ?_
      refine q_bipush rfl rfl ?_
      refine q_iload_n rfl rfl rfl ?_
      refine q_iadd rfl rfl (q_tn (z := 15) rfl ?_)
      refine q_aload_n rfl rfl rfl ?_
      refine q_getf rfl rfl (by decide) rfl rfl ?_
      refine q_iload_n rfl rfl rfl ?_
      refine q_iald rfl rfl (by decide) (FW_51 S hW) (by decide) (q_tn (z := 0) rfl ?_)
      refine q_iast rfl rfl (by decide) rfl (by decide) ?_
      refine q_icc1 (z := 4) rfl rfl rfl rfl rfl ?_
      refine q_goto rfl ?_
      refine q_iload_n rfl rfl rfl ?_
      refine q_iconst rfl rfl ?_
      refine q_icge rfl rfl (fun c105 => ?_) (fun c105 => absurd (by decide) c105)
      refine q_ret rfl rfl ?_
      refine ⟨rfl, ?_⟩
      refine q_iconst rfl rfl ?_
      refine q_ist3n rfl rfl rfl rfl ?_
      refine q_iload_n rfl rfl rfl ?_
      refine q_bipush rfl rfl ?_
      refine q_icge rfl rfl (fun c106 => absurd c106 (by decide)) (fun c106 => ?_)
      refine q_aload_n rfl rfl rfl ?_
      refine q_getf rfl rfl (by decide) rfl rfl ?_
      refine q_iload_n rfl rfl rfl ?_
      refine q_aload_n rfl rfl rfl ?_
      refine q_getf rfl rfl (by decide) rfl rfl ?_
      refine q_iload_n rfl rfl rfl ?_
      refine q_iald rfl rfl (by decide) rfl (by decide) (q_tn (z := 10) rfl ?_)
      refine q_iast rfl rfl (by decide) (FW_53 S hW) (by decide) ?_
      refine q_icc3 (z := 1) rfl rfl rfl rfl rfl ?_
      refine q_goto rfl ?_
      refine q_iload_n rfl rfl rfl ?_
      refine q_bipush rfl rfl ?_
      refine q_icge rfl rfl (fun c107 => absurd c107 (by decide)) (fun c107 => ?_)
      refine q_aload_n rfl rfl rfl ?_
      refine q_getf rfl rfl (by decide) rfl rfl ?_
      refine q_iload_n rfl rfl rfl ?_
      refine q_aload_n rfl rfl rfl ?_
      refine q_getf rfl rfl (by decide) rfl rfl ?_
      refine q_iload_n rfl rfl rfl ?_
      refine q_iald rfl rfl (by decide) rfl (by decide) (q_tn (z := 0) rfl ?_)
      refine q_iast rfl rfl (by decide) rfl (by decide) ?_
      refine q_icc3 (z := 2) rfl rfl rfl rfl rfl ?_
      refine q_goto rfl ?_
      refine q_iload_n rfl rfl rfl ?_
      refine q_bipush rfl rfl ?_
      refine q_icge rfl rfl (fun c108 => absurd c108 (by decide)) (fun c108 => ?_)
      refine q_aload_n rfl rfl rfl ?_
      refine q_getf rfl rfl (by decide) rfl rfl ?_
      refine q_iload_n rfl rfl rfl ?_
      refine q_aload_n rfl rfl rfl ?_
      refine q_getf rfl rfl (by decide) rfl rfl ?_
      refine q_iload_n rfl rfl rfl ?_
      refine q_iald rfl rfl (by decide) rfl (by decide) (q_tn (z := 0) rfl ?_)
      refine q_iast rfl rfl (by decide) rfl (by decide) ?_
      refine q_icc3 (z := 3) rfl rfl rfl rfl rfl ?_
      refine q_goto rfl ?_
      refine q_iload_n rfl rfl rfl ?_
      refine q_bipush rfl rfl ?_
      refine q_icge rfl rfl (fun c109 => absurd c109 (by decide)) (fun c109 => ?_)
      refine q_aload_n rfl rfl rfl ?_
      refine q_getf rfl rfl (by decide) rfl rfl ?_
      refine q_iload_n rfl rfl rfl ?_
      refine q_aload_n rfl rfl rfl ?_
      refine q_getf rfl rfl (by decide) rfl rfl ?_
      refine q_iload_n rfl rfl rfl ?_
      refine q_iald rfl rfl (by decide) rfl (by decide) (q_tn (z := 0) rfl ?_)
      refine q_iast rfl rfl (by decide) rfl (by decide) ?_
      refine q_icc3 (z := 4) rfl rfl rfl rfl rfl ?_
      refine q_goto rfl ?_
      refine q_iload_n rfl rfl rfl ?_
      refine q_bipush rfl rfl ?_
      refine q_icge rfl rfl (fun c110 => absurd c110 (by decide)) (fun c110 => ?_)
      refine q_aload_n rfl rfl rfl ?_
      refine q_getf rfl rfl (by decide) rfl rfl ?_
      refine q_iload_n rfl rfl rfl ?_
      refine q_aload_n rfl rfl rfl ?_
      refine q_getf rfl rfl (by decide) rfl rfl ?_
      refine q_iload_n rfl rfl rfl ?_
      refine q_iald rfl rfl (by decide) rfl (by decide) (q_tn (z := 0) rfl ?_)
      refine q_iast rfl rfl (by decide) rfl (by decide) ?_
      refine q_icc3 (z := 5) rfl rfl rfl rfl rfl ?_
      refine q_goto rfl ?_
      refine q_iload_n rfl rfl rfl ?_
      refine q_bipush rfl rfl ?_
      refine q_icge rfl rfl (fun c111 => absurd c111 (by decide)) (fun c111 => ?_)
      refine q_aload_n rfl rfl rfl ?_
      refine q_getf rfl rfl (by decide) rfl rfl ?_
      refine q_iload_n rfl rfl rfl ?_
      refine q_aload_n rfl rfl rfl ?_
      refine q_getf rfl rfl (by decide) rfl rfl ?_
      refine q_iload_n rfl rfl rfl ?_
      refine q_iald rfl rfl (by decide) rfl (by decide) (q_tn (z := 0) rfl ?_)
      refine q_iast rfl rfl (by decide) rfl (by decide) ?_
      refine q_icc3 (z := 6) rfl rfl rfl rfl rfl ?_
      refine q_goto rfl ?_
      refine q_iload_n rfl rfl rfl ?_
      refine q_bipush rfl rfl ?_
      refine q_icge rfl rfl (fun c112 => absurd c112 (by decide)) (fun c112 => ?_)
      refine q_aload_n rfl rfl rfl ?_
      refine q_getf rfl rfl (by decide) rfl rfl ?_
      refine q_iload_n rfl rfl rfl ?_
      refine q_aload_n rfl rfl rfl ?_
      refine q_getf rfl rfl (by decide) rfl rfl ?_
      refine q_iload_n rfl rfl rfl ?_
      refine q_iald rfl rfl (by decide) rfl (by decide) (q_tn (z := 0) rfl ?_)
      refine q_iast rfl rfl (by decide) rfl (by decide) ?_
      refine q_icc3 (z := 7) rfl rfl rfl rfl rfl ?_
      refine q_goto rfl ?_
      refine q_iload_n rfl rfl rfl ?_
      refine q_bipush rfl rfl ?_
      refine q_icge rfl rfl (fun c113 => absurd c113 (by decide)) (fun c113 => ?_)
      refine q_aload_n rfl rfl rfl ?_
      refine q_getf rfl rfl (by decide) rfl rfl ?_
      refine q_iload_n rfl rfl rfl ?_
      refine q_aload_n rfl rfl rfl ?_
      refine q_getf rfl rfl (by decide) rfl rfl ?_
      refine q_iload_n rfl rfl rfl ?_
      refine q_iald rfl rfl (by decide) rfl (by decide) (q_tn (z := 0) rfl ?_)
      refine q_iast rfl rfl (by decide) rfl (by decide) ?_
      refine q_icc3 (z := 8) rfl rfl rfl rfl rfl ?_
      refine q_goto rfl ?_
      refine q_iload_n rfl rfl rfl ?_
      refine q_bipush rfl rfl ?_
      refine q_icge rfl rfl (fun c114 => absurd c114 (by decide)) (fun c114 => ?_)
      refine q_aload_n rfl rfl rfl ?_
      refine q_getf rfl rfl (by decide) rfl rfl ?_
      refine q_iload_n rfl rfl rfl ?_
      refine q_aload_n rfl rfl rfl ?_
      refine q_getf rfl rfl (by decide) rfl rfl ?_
      refine q_iload_n rfl rfl rfl ?_
      refine q_iald rfl rfl (by decide) rfl (by decide) (q_tn (z := 0) rfl ?_)
      refine q_iast rfl rfl (by decide) rfl (by decide) ?_
      refine q_icc3 (z := 9) rfl rfl rfl rfl rfl ?_
      refine q_goto rfl ?_
      refine q_iload_n rfl rfl rfl ?_
      refine q_bipush rfl rfl ?_
      refine q_icge rfl rfl (fun c115 => absurd c115 (by decide)) (fun c115 => ?_)
      refine q_aload_n rfl rfl rfl ?_
      refine q_getf rfl rfl (by decide) rfl rfl ?_
      refine q_iload_n rfl rfl rfl ?_
      refine q_aload_n rfl rfl rfl ?_
      refine q_getf rfl rfl (by decide) rfl rfl ?_
      refine q_iload_n rfl rfl rfl ?_
      refine q_iald rfl rfl (by decide) rfl (by decide) (q_tn (z := 0) rfl ?_)
      refine q_iast rfl rfl (by decide) rfl (by decide) ?_
      refine q_icc3 (z := 10) rfl rfl rfl rfl rfl ?_
      refine q_goto rfl ?_
      refine q_iload_n rfl rfl rfl ?_
      refine q_bipush rfl rfl ?_
      refine q_icge rfl rfl (fun c116 => absurd c116 (by decide)) (fun c116 => ?_)
      refine q_aload_n rfl rfl rfl ?_
      refine q_getf rfl rfl (by decide) rfl rfl ?_
      refine q_iload_n rfl rfl rfl ?_
      refine q_aload_n rfl rfl rfl ?_
      refine q_getf rfl rfl (by decide) rfl rfl ?_
      refine q_iload_n rfl rfl rfl ?_
      refine q_iald rfl rfl (by decide) rfl (by decide) (q_tn (z := 0) rfl ?_)
      refine q_iast rfl rfl (by decide) rfl (by decide) ?_
      refine q_icc3 (z := 11) rfl rfl rfl rfl rfl ?_
      refine q_goto rfl ?_
      refine q_iload_n rfl rfl rfl ?_
      refine q_bipush rfl rfl ?_
      refine q_icge rfl rfl (fun c117 => absurd c117 (by decide)) (fun c117 => ?_)
      refine q_aload_n rfl rfl rfl ?_
      refine q_getf rfl rfl (by decide) rfl rfl ?_
      refine q_iload_n rfl rfl rfl ?_
      refine q_aload_n rfl rfl rfl ?_
      refine q_getf rfl rfl (by decide) rfl rfl ?_
      refine q_iload_n rfl rfl rfl ?_
      refine q_iald rfl rfl (by decide) rfl (by decide) (q_tn (z := 0) rfl ?_)
      refine q_iast rfl rfl (by decide) rfl (by decide) ?_
      refine q_icc3 (z := 12) rfl rfl rfl rfl rfl ?_
      refine q_goto rfl ?_
      refine q_iload_n rfl rfl rfl ?_
      refine q_bipush rfl rfl ?_
      refine q_icge rfl rfl (fun c118 => absurd c118 (by decide)) (fun c118 => ?_)
      refine q_aload_n rfl rfl rfl ?_
      refine q_getf rfl rfl (by decide) rfl rfl ?_
      refine q_iload_n rfl rfl rfl ?_
      refine q_aload_n rfl rfl rfl ?_
      refine q_getf rfl rfl (by decide) rfl rfl ?_
      refine q_iload_n rfl rfl rfl ?_
      refine q_iald rfl rfl (by decide) rfl (by decide) (q_tn (z := 0) rfl ?_)
      refine q_iast rfl rfl (by decide) rfl (by decide) ?_
      refine q_icc3 (z := 13) rfl rfl rfl rfl rfl ?_
      refine q_goto rfl ?_
      refine q_iload_n rfl rfl rfl ?_
      refine q_bipush rfl rfl ?_
      refine q_icge rfl rfl (fun c119 => absurd c119 (by decide)) (fun c119 => ?_)
      refine q_aload_n rfl rfl rfl ?_
      refine q_getf rfl rfl (by decide) rfl rfl ?_
      refine q_iload_n rfl rfl rfl ?_
      refine q_aload_n rfl rfl rfl ?_
      refine q_getf rfl rfl (by decide) rfl rfl ?_
      refine q_iload_n rfl rfl rfl ?_
      refine q_iald rfl rfl (by decide) rfl (by decide) (q_tn (z := 0) rfl ?_)
      refine q_iast rfl rfl (by decide) rfl (by decide) ?_
      refine q_icc3 (z := 14) rfl rfl rfl rfl rfl ?_
      refine q_goto rfl ?_
      refine q_iload_n rfl rfl rfl ?_
      refine q_bipush rfl rfl ?_
      refine q_icge rfl rfl (fun c120 => absurd c120 (by decide)) (fun c120 => ?_)
      refine q_aload_n rfl rfl rfl ?_
      refine q_getf rfl rfl (by decide) rfl rfl ?_
      refine q_iload_n rfl rfl rfl ?_
      refine q_aload_n rfl rfl rfl ?_
      refine q_getf rfl rfl (by decide) rfl rfl ?_
      refine q_iload_n rfl rfl rfl ?_
      refine q_iald rfl rfl (by decide) rfl (by decide) (q_tn (z := 0) rfl ?_)
      refine q_iast rfl rfl (by decide) rfl (by decide) ?_
      refine q_icc3 (z := 15) rfl rfl rfl rfl rfl ?_
      refine q_goto rfl ?_
      refine q_iload_n rfl rfl rfl ?_
      refine q_bipush rfl rfl ?_
      refine q_icge rfl rfl (fun c121 => absurd c121 (by decide)) (fun c121 => ?_)
      refine q_aload_n rfl rfl rfl ?_
      refine q_getf rfl rfl (by decide) rfl rfl ?_
      refine q_iload_n rfl rfl rfl ?_
      refine q_aload_n rfl rfl rfl ?_
      refine q_getf rfl rfl (by decide) rfl rfl ?_
      refine q_iload_n rfl rfl rfl ?_
      refine q_iald rfl rfl (by decide) rfl (by decide) (q_tn (z := 0) rfl ?_)
      refine q_iast rfl rfl (by decide) rfl (by decide) ?_
      refine q_icc3 (z := 16) rfl rfl rfl rfl rfl ?_
      refine q_goto rfl ?_
      refine q_iload_n rfl rfl rfl ?_
      refine q_bipush rfl rfl ?_
      refine q_icge rfl rfl (fun c122 => absurd c122 (by decide)) (fun c122 => ?_)
      refine q_aload_n rfl rfl rfl ?_
      refine q_getf rfl rfl (by decide) rfl rfl ?_
      refine q_iload_n rfl rfl rfl ?_
      refine q_aload_n rfl rfl rfl ?_
      refine q_getf rfl rfl (by decide) rfl rfl ?_
      refine q_iload_n rfl rfl rfl ?_
      refine q_iald rfl rfl (by decide) rfl (by decide) (q_tn (z := 0) rfl ?_)
      refine q_iast rfl rfl (by decide) rfl (by decide) ?_
      refine q_icc3 (z := 17) rfl rfl rfl rfl rfl ?_
      refine q_goto rfl ?_
      refine q_iload_n rfl rfl rfl ?_
      refine q_bipush rfl rfl ?_
      refine q_icge rfl rfl (fun c123 => absurd c123 (by decide)) (fun c123 => ?_)
      refine q_aload_n rfl rfl rfl ?_
      refine q_getf rfl rfl (by decide) rfl rfl ?_
      refine q_iload_n rfl rfl rfl ?_
      refine q_aload_n rfl rfl rfl ?_
      refine q_getf rfl rfl (by decide) rfl rfl ?_
      refine q_iload_n rfl rfl rfl ?_
      refine q_iald rfl rfl (by decide) rfl (by decide) (q_tn (z := 0) rfl ?_)
      refine q_iast rfl rfl (by decide) rfl (by decide) ?_
      refine q_icc3 (z := 18) rfl rfl rfl rfl rfl ?_
      refine q_goto rfl ?_
      refine q_iload_n rfl rfl rfl ?_
      refine q_bipush rfl rfl ?_
      refine q_icge rfl rfl (fun c124 => absurd c124 (by decide)) (fun c124 => ?_)
      refine q_aload_n rfl rfl rfl ?_
      refine q_getf rfl rfl (by decide) rfl rfl ?_
      refine q_iload_n rfl rfl rfl ?_
      refine q_aload_n rfl rfl rfl ?_
      refine q_getf rfl rfl (by decide) rfl rfl ?_
      refine q_iload_n rfl rfl rfl ?_
      refine q_iald rfl rfl (by decide) rfl (by decide) (q_tn (z := 0) rfl ?_)
      refine q_iast rfl rfl (by decide) rfl (by decide) ?_
      refine q_icc3 (z := 19) rfl rfl rfl rfl rfl ?_
      refine q_goto rfl ?_
      refine q_iload_n rfl rfl rfl ?_
      refine q_bipush rfl rfl ?_
      refine q_icge rfl rfl (fun c125 => absurd c125 (by decide)) (fun c125 => ?_)
      refine q_aload_n rfl rfl rfl ?_
      refine q_getf rfl rfl (by decide) rfl rfl ?_
      refine q_iload_n rfl rfl rfl ?_
      refine q_aload_n rfl rfl rfl ?_
      refine q_getf rfl rfl (by decide) rfl rfl ?_
      refine q_iload_n rfl rfl rfl ?_
      refine q_iald rfl rfl (by decide) rfl (by decide) (q_tn (z := 0) rfl ?_)
      refine q_iast rfl rfl (by decide) rfl (by decide) ?_
      refine q_icc3 (z := 20) rfl rfl rfl rfl rfl ?_
      refine q_goto rfl ?_
      refine q_iload_n rfl rfl rfl ?_
      refine q_bipush rfl rfl ?_
      refine q_icge rfl rfl (fun c126 => ?_) (fun c126 => absurd (by decide) c126)
      refine q_aload_n rfl rfl rfl ?_
      refine q_iload_n rfl rfl rfl ?_
      refine q_iconst rfl rfl ?_
      refine q_iconst rfl rfl ?_
      refine q_nV3 rfl rfl (Or.inl rfl) rfl rfl rfl (by decide) rfl ⟨rfl, rfl⟩ rfl ?_
      change PQ _ _ _ mm_X12_put 0 [.ref 46, .int 0, .int (-1), .int (-1), pm_un, pm_un, pm_un] [] _ _ 0 0 _
      refine q_aload_n rfl rfl rfl ?_
      refine q_getf rfl rfl (by decide) rfl rfl ?_
      refine q_iload_n rfl rfl rfl ?_
      refine q_iald rfl rfl (by decide) rfl (by decide) (q_tn (z := 0) rfl ?_)
      refine q_ist4 rfl rfl rfl rfl ?_
      refine q_iload rfl rfl rfl ?_
      refine q_sipush rfl rfl ?_
      refine q_icne rfl rfl (fun c127 => absurd c127 (by decide)) (fun c127 => ?_)
      refine q_sipush rfl rfl ?_
      refine q_iload_n rfl rfl rfl ?_
      refine q_imul rfl rfl (q_tn (z := 0) rfl ?_)
      refine q_iload rfl rfl rfl ?_
      refine q_iadd rfl rfl (q_tn (z := 0) rfl ?_)
      refine q_ist5 rfl rfl rfl rfl ?_
      refine q_iconst rfl rfl ?_
      refine q_ist6 rfl rfl rfl rfl ?_
      refine q_iload rfl rfl rfl ?_
      refine q_bipush rfl rfl ?_
      refine q_icge rfl rfl (fun c128 => absurd c128 (by decide)) (fun c128 => ?_)
      refine q_aload_n rfl rfl rfl ?_
      refine q_getf rfl rfl (by decide) rfl rfl ?_
      refine q_bipush rfl rfl ?_
      refine q_iload rfl rfl rfl ?_
      refine q_imul rfl rfl (q_tn (z := 0) rfl ?_)
      refine q_iload rfl rfl rfl ?_
      refine q_iadd rfl rfl (q_tn (z := 0) rfl ?_)
      refine q_aload_n rfl rfl rfl ?_
      refine q_getf rfl rfl (by decide) rfl rfl ?_
      refine q_iload rfl rfl rfl ?_
      refine q_iald rfl rfl (by decide) rfl (by decide) (q_tn (z := 10) rfl ?_)
      refine q_iast rfl rfl (by decide) (FW_55 S hW) (by decide) ?_
      refine q_icc6 (z := 1) rfl rfl rfl rfl rfl ?_
      refine q_goto rfl ?_
      refine q_iload rfl rfl rfl ?_
      refine q_bipush rfl rfl ?_
      refine q_icge rfl rfl (fun c129 => absurd c129 (by decide)) (fun c129 => ?_)
      refine q_aload_n rfl rfl rfl ?_
      refine q_getf rfl rfl (by decide) rfl rfl ?_
      refine q_bipush rfl rfl ?_
      refine q_iload rfl rfl rfl ?_
      refine q_imul rfl rfl (q_tn (z := 0) rfl ?_)
      refine q_iload rfl rfl rfl ?_
      refine q_iadd rfl rfl (q_tn (z := 1) rfl ?_)
      refine q_aload_n rfl rfl rfl ?_
      refine q_getf rfl rfl (by decide) rfl rfl ?_
      refine q_iload rfl rfl rfl ?_
      refine q_iald rfl rfl (by decide) rfl (by decide) (q_tn (z := 0) rfl ?_)
      refine q_iast rfl rfl (by decide) rfl (by decide) ?_
      refine q_icc6 (z := 2) rfl rfl rfl rfl rfl ?_
      refine q_goto rfl ?_
      refine q_iload rfl rfl rfl ?_
      refine q_bipush rfl rfl ?_
      refine q_icge rfl rfl (fun c130 => absurd c130 (by decide)) (fun c130 => ?_)
      refine q_aload_n rfl rfl rfl ?_
      refine q_getf rfl rfl (by decide) rfl rfl ?_
      refine q_bipush rfl rfl ?_
      refine q_iload rfl rfl rfl ?_
      refine q_imul rfl rfl (q_tn (z := 0) rfl ?_)
      refine q_iload rfl rfl rfl ?_
      refine q_iadd rfl rfl (q_tn (z := 2) rfl ?_)
      refine q_aload_n rfl rfl rfl ?_
      refine q_getf rfl rfl (by decide) rfl rfl ?_
      refine q_iload rfl rfl rfl ?_
      refine q_iald rfl rfl (by decide) rfl (by decide) (q_tn (z := 0) rfl ?_)
      refine q_iast rfl rfl (by decide) rfl (by decide) ?_
      refine q_icc6 (z := 3) rfl rfl rfl rfl rfl ?_
      refine q_goto rfl ?_
      refine q_iload rfl rfl rfl ?_
      refine q_bipush rfl rfl ?_
      refine q_icge rfl rfl (fun c131 => absurd c131 (by decide)) (fun c131 => ?_)
      refine q_aload_n rfl rfl rfl ?_
      refine q_getf rfl rfl (by decide) rfl rfl ?_
      refine q_bipush rfl rfl ?_
      refine q_iload rfl rfl rfl ?_
      refine q_imul rfl rfl (q_tn (z := 0) rfl ?_)
      refine q_iload rfl rfl rfl ?_
      refine q_iadd rfl rfl (q_tn (z := 3) rfl ?_)
      refine q_aload_n rfl rfl rfl ?_
      refine q_getf rfl rfl (by decide) rfl rfl ?_
      refine q_iload rfl rfl rfl ?_
      refine q_iald rfl rfl (by decide) rfl (by decide) (q_tn (z := 0) rfl ?_)
      refine q_iast rfl rfl (by decide) rfl (by decide) ?_
      refine q_icc6 (z := 4) rfl rfl rfl rfl rfl ?_
      refine q_goto rfl ?_
      refine q_iload rfl rfl rfl ?_
      refine q_bipush rfl rfl ?_
      refine q_icge rfl rfl (fun c132 => absurd c132 (by decide)) (fun c132 => ?_)
      refine q_aload_n rfl rfl rfl ?_
      refine q_getf rfl rfl (by decide) rfl rfl ?_
      refine q_bipush rfl rfl ?_
      refine q_iload rfl rfl rfl ?_
      refine q_imul rfl rfl (q_tn (z := 0) rfl ?_)
      refine q_iload rfl rfl rfl ?_
      refine q_iadd rfl rfl (q_tn (z := 4) rfl ?_)
      refine q_aload_n rfl rfl rfl ?_
      refine q_getf rfl rfl (by decide) rfl rfl ?_
      refine q_iload rfl rfl rfl ?_
      refine q_iald rfl rfl (by decide) rfl (by decide) (q_tn (z := 0) rfl ?_)
      refine q_iast rfl rfl (by decide) rfl (by decide) ?_
      refine q_icc6 (z := 5) rfl rfl rfl rfl rfl ?_
      refine q_goto rfl ?_
      refine q_iload rfl rfl rfl ?_
      refine q_bipush rfl rfl ?_
      refine q_icge rfl rfl (fun c133 => absurd c133 (by decide)) (fun c133 => ?_)
      refine q_aload_n rfl rfl rfl ?_
      refine q_getf rfl rfl (by decide) rfl rfl ?_
      refine q_bipush rfl rfl ?_
      refine q_iload rfl rfl rfl ?_
      refine q_imul rfl rfl (q_tn (z := 0) rfl ?_)
      refine q_iload rfl rfl rfl ?_
      refine q_iadd rfl rfl (q_tn (z := 5) rfl ?_)
      refine q_aload_n rfl rfl rfl ?_
      refine q_getf rfl rfl (by decide) rfl rfl ?_
      refine q_iload rfl rfl rfl ?_
      refine q_iald rfl rfl (by decide) rfl (by decide) (q_tn (z := 0) rfl ?_)
      refine q_iast rfl rfl (by decide) rfl (by decide) ?_
      refine q_icc6 (z := 6) rfl rfl rfl rfl rfl ?_
      refine q_goto rfl ?_
      refine q_iload rfl rfl rfl ?_
      refine q_bipush rfl rfl ?_
      refine q_icge rfl rfl (fun c134 => absurd c134 (by decide)) (fun c134 => ?_)
      refine q_aload_n rfl rfl rfl ?_
      refine q_getf rfl rfl (by decide) rfl rfl ?_
      refine q_bipush rfl rfl ?_
      refine q_iload rfl rfl rfl ?_
      refine q_imul rfl rfl (q_tn (z := 0) rfl ?_)
      refine q_iload rfl rfl rfl ?_
      refine q_iadd rfl rfl (q_tn (z := 6) rfl ?_)
      refine q_aload_n rfl rfl rfl ?_
      refine q_getf rfl rfl (by decide) rfl rfl ?_
      refine q_iload rfl rfl rfl ?_
      refine q_iald rfl rfl (by decide) rfl (by decide) (q_tn (z := 0) rfl ?_)
      refine q_iast rfl rfl (by decide) rfl (by decide) ?_
      refine q_icc6 (z := 7) rfl rfl rfl rfl rfl ?_
      refine q_goto rfl ?_
      refine q_iload rfl rfl rfl ?_
      refine q_bipush rfl rfl ?_
      refine q_icge rfl rfl (fun c135 => absurd c135 (by decide)) (fun c135 => ?_)
      refine q_aload_n rfl rfl rfl ?_
      refine q_getf rfl rfl (by decide) rfl rfl ?_
      refine q_bipush rfl rfl ?_
      refine q_iload rfl rfl rfl ?_
      refine q_imul rfl rfl (q_tn (z := 0) rfl ?_)
      refine q_iload rfl rfl rfl ?_
      refine q_iadd rfl rfl (q_tn (z := 7) rfl ?_)
      refine q_aload_n rfl rfl rfl ?_
      refine q_getf rfl rfl (by decide) rfl rfl ?_
      refine q_iload rfl rfl rfl ?_
      refine q_iald rfl rfl (by decide) rfl (by decide) (q_tn (z := 0) rfl ?_)
      refine q_iast rfl rfl (by decide) rfl (by decide) ?_
      refine q_icc6 (z := 8) rfl rfl rfl rfl rfl ?_
      refine q_goto rfl ?_
      refine q_iload rfl rfl rfl ?_
      refine q_bipush rfl rfl ?_
      refine q_icge rfl rfl (fun c136 => absurd c136 (by decide)) (fun c136 => ?_)
      refine q_aload_n rfl rfl rfl ?_
      refine q_getf rfl rfl (by decide) rfl rfl ?_
      refine q_bipush rfl rfl ?_
      refine q_iload rfl rfl rfl ?_
      refine q_imul rfl rfl (q_tn (z := 0) rfl ?_)
      refine q_iload rfl rfl rfl ?_
      refine q_iadd rfl rfl (q_tn (z := 8) rfl ?_)
      refine q_aload_n rfl rfl rfl ?_
      refine q_getf rfl rfl (by decide) rfl rfl ?_
      refine q_iload rfl rfl rfl ?_
      refine q_iald rfl rfl (by decide) rfl (by decide) (q_tn (z := 0) rfl ?_)
      refine q_iast rfl rfl (by decide) rfl (by decide) ?_
      refine q_icc6 (z := 9) rfl rfl rfl rfl rfl ?_
      refine q_goto rfl ?_
      refine q_iload rfl rfl rfl ?_
      refine q_bipush rfl rfl ?_
      refine q_icge rfl rfl (fun c137 => absurd c137 (by decide)) (fun c137 => ?_)
      refine q_aload_n rfl rfl rfl ?_
      refine q_getf rfl rfl (by decide) rfl rfl ?_
      refine q_bipush rfl rfl ?_
      refine q_iload rfl rfl rfl ?_
      refine q_imul rfl rfl (q_tn (z := 0) rfl ?_)
      refine q_iload rfl rfl rfl ?_
      refine q_iadd rfl rfl (q_tn (z := 9) rfl ?_)
      refine q_aload_n rfl rfl rfl ?_
      refine q_getf rfl rfl (by decide) rfl rfl ?_
      refine q_iload rfl rfl rfl ?_
      refine q_iald rfl rfl (by decide) rfl (by decide) (q_tn (z := 0) rfl ?_)
      refine q_iast rfl rfl (by decide) rfl (by decide) ?_
      refine q_icc6 (z := 10) rfl rfl rfl rfl rfl ?_
      refine q_goto rfl ?_
      refine q_iload rfl rfl rfl ?_
      refine q_bipush rfl rfl ?_
      refine q_icge rfl rfl (fun c138 => absurd c138 (by decide)) (fun c138 => ?_)
      refine q_aload_n rfl rfl rfl ?_
      refine q_getf rfl rfl (by decide) rfl rfl ?_
      refine q_bipush rfl rfl ?_
      refine q_iload rfl rfl rfl ?_
      refine q_imul rfl rfl (q_tn (z := 0) rfl ?_)
      refine q_iload rfl rfl rfl ?_
      refine q_iadd rfl rfl (q_tn (z := 10) rfl ?_)
      refine q_aload_n rfl rfl rfl ?_
      refine q_getf rfl rfl (by decide) rfl rfl ?_
      refine q_iload rfl rfl rfl ?_
      refine q_iald rfl rfl (by decide) rfl (by decide) (q_tn (z := 0) rfl ?_)
      refine q_iast rfl rfl (by decide) rfl (by decide) ?_
      refine q_icc6 (z := 11) rfl rfl rfl rfl rfl ?_
      refine q_goto rfl ?_
      refine q_iload rfl rfl rfl ?_
      refine q_bipush rfl rfl ?_
      refine q_icge rfl rfl (fun c139 => absurd c139 (by decide)) (fun c139 => ?_)
      refine q_aload_n rfl rfl rfl ?_
      refine q_getf rfl rfl (by decide) rfl rfl ?_
      refine q_bipush rfl rfl ?_
      refine q_iload rfl rfl rfl ?_
      refine q_imul rfl rfl (q_tn (z := 0) rfl ?_)
      refine q_iload rfl rfl rfl ?_
      refine q_iadd rfl rfl (q_tn (z := 11) rfl ?_)
      refine q_aload_n rfl rfl rfl ?_
      refine q_getf rfl rfl (by decide) rfl rfl ?_
      refine q_iload rfl rfl rfl ?_
      refine q_iald rfl rfl (by decide) rfl (by decide) (q_tn (z := 0) rfl ?_)
      refine q_iast rfl rfl (by decide) rfl (by decide) ?_
      refine q_icc6 (z := 12) rfl rfl rfl rfl rfl ?_
      refine q_goto rfl ?_
      refine q_iload rfl rfl rfl ?_
      refine q_bipush rfl rfl ?_
      refine q_icge rfl rfl (fun c140 => absurd c140 (by decide)) (fun c140 => ?_)
      refine q_aload_n rfl rfl rfl ?_
      refine q_getf rfl rfl (by decide) rfl rfl ?_
      refine q_bipush rfl rfl ?_
      refine q_iload rfl rfl rfl ?_
      refine q_imul rfl rfl (q_tn (z := 0) rfl ?_)
      refine q_iload rfl rfl rfl ?_
      refine q_iadd rfl rfl (q_tn (z := 12) rfl ?_)
      refine q_aload_n rfl rfl rfl ?_
      refine q_getf rfl rfl (by decide) rfl rfl ?_
      refine q_iload rfl rfl rfl ?_
      refine q_iald rfl rfl (by decide) rfl (by decide) (q_tn (z := 0) rfl ?_)
      refine q_iast rfl rfl (by decide) rfl (by decide) ?_
      refine q_icc6 (z := 13) rfl rfl rfl rfl rfl ?_
      refine q_goto rfl ?_
      refine q_iload rfl rfl rfl ?_
      refine q_bipush rfl rfl ?_
      refine q_icge rfl rfl (fun c141 => absurd c141 (by decide)) (fun c141 => ?_)
      refine q_aload_n rfl rfl rfl ?_
      refine q_getf rfl rfl (by decide) rfl rfl ?_
      refine q_bipush rfl rfl ?_
      refine q_iload rfl rfl rfl ?_
      refine q_imul rfl rfl (q_tn (z := 0) rfl ?_)
      refine q_iload rfl rfl rfl ?_
      refine q_iadd rfl rfl (q_tn (z := 13) rfl ?_)
      refine q_aload_n rfl rfl rfl ?_
      refine q_getf rfl rfl (by decide) rfl rfl ?_
      refine q_iload rfl rfl rfl ?_
      refine q_iald rfl rfl (by decide) rfl (by decide) (q_tn (z := 0) rfl ?_)
      refine q_iast rfl rfl (by decide) rfl (by decide) ?_
      refine q_icc6 (z := 14) rfl rfl rfl rfl rfl ?_
      refine q_goto rfl ?_
      refine q_iload rfl rfl rfl ?_
      refine q_bipush rfl rfl ?_
      refine q_icge rfl rfl (fun c142 => absurd c142 (by decide)) (fun c142 => ?_)
      refine q_aload_n rfl rfl rfl ?_
      refine q_getf rfl rfl (by decide) rfl rfl ?_
      refine q_bipush rfl rfl ?_
      refine q_iload rfl rfl rfl ?_
      refine q_imul rfl rfl (q_tn (z := 0) rfl ?_)
      refine q_iload rfl rfl rfl ?_
      refine q_iadd rfl rfl (q_tn (z := 14) rfl ?_)
      refine q_aload_n rfl rfl rfl ?_
      refine q_getf rfl rfl (by decide) rfl rfl ?_
      refine q_iload rfl rfl rfl ?_
      refine q_iald rfl rfl (by decide) rfl (by decide) (q_tn (z := 0) rfl ?_)
      refine q_iast rfl rfl (by decide) rfl (by decide) ?_
      refine q_icc6 (z := 15) rfl rfl rfl rfl rfl ?_
      refine q_goto rfl ?_
      refine q_iload rfl rfl rfl ?_
      refine q_bipush rfl rfl ?_
      refine q_icge rfl rfl (fun c143 => absurd c143 (by decide)) (fun c143 => ?_)
      refine q_aload_n rfl rfl rfl ?_
      refine q_getf rfl rfl (by decide) rfl rfl ?_
      refine q_bipush rfl rfl ?_
      refine q_iload rfl rfl rfl ?_
      refine q_imul rfl rfl (q_tn (z := 0) rfl ?_)
      refine q_iload rfl rfl rfl ?_
      refine q_iadd rfl rfl (q_tn (z := 15) rfl ?_)
      refine q_aload_n rfl rfl rfl ?_
      refine q_getf rfl rfl (by decide) rfl rfl ?_
      refine q_iload rfl rfl rfl ?_
      refine q_iald rfl rfl (by decide) rfl (by decide) (q_tn (z := 0) rfl ?_)
      refine q_iast rfl rfl (by decide) rfl (by decide) ?_
      refine q_icc6 (z := 16) rfl rfl rfl rfl rfl ?_
      refine q_goto rfl ?_
      refine q_iload rfl rfl rfl ?_
      refine q_bipush rfl rfl ?_
      refine q_icge rfl rfl (fun c144 => absurd c144 (by decide)) (fun c144 => ?_)
      refine q_aload_n rfl rfl rfl ?_
      refine q_getf rfl rfl (by decide) rfl rfl ?_
      refine q_bipush rfl rfl ?_
      refine q_iload rfl rfl rfl ?_
      refine q_imul rfl rfl (q_tn (z := 0) rfl ?_)
      refine q_iload rfl rfl rfl ?_
      refine q_iadd rfl rfl (q_tn (z := 16) rfl ?_)
      refine q_aload_n rfl rfl rfl ?_
      refine q_getf rfl rfl (by decide) rfl rfl ?_
      refine q_iload rfl rfl rfl ?_
      refine q_iald rfl rfl (by decide) rfl (by decide) (q_tn (z := 0) rfl ?_)
      refine q_iast rfl rfl (by decide) rfl (by decide) ?_
      refine q_icc6 (z := 17) rfl rfl rfl rfl rfl ?_
      refine q_goto rfl ?_
      refine q_iload rfl rfl rfl ?_
      refine q_bipush rfl rfl ?_
      refine q_icge rfl rfl (fun c145 => absurd c145 (by decide)) (fun c145 => ?_)
      refine q_aload_n rfl rfl rfl ?_
      refine q_getf rfl rfl (by decide) rfl rfl ?_
      refine q_bipush rfl rfl ?_
      refine q_iload rfl rfl rfl ?_
      refine q_imul rfl rfl (q_tn (z := 0) rfl ?_)
      refine q_iload rfl rfl rfl ?_
      refine q_iadd rfl rfl (q_tn (z := 17) rfl ?_)
      refine q_aload_n rfl rfl rfl ?_
      refine q_getf rfl rfl (by decide) rfl rfl ?_
      refine q_iload rfl rfl rfl ?_
      refine q_iald rfl rfl (by decide) rfl (by decide) (q_tn (z := 0) rfl ?_)
      refine q_iast rfl rfl (by decide) rfl (by decide) ?_
      refine q_icc6 (z := 18) rfl rfl rfl rfl rfl ?_
      refine q_goto rfl ?_
      refine q_iload rfl rfl rfl ?_
      refine q_bipush rfl rfl ?_
      refine q_icge rfl rfl (fun c146 => absurd c146 (by decide)) (fun c146 => ?_)
      refine q_aload_n rfl rfl rfl ?_
      refine q_getf rfl rfl (by decide) rfl rfl ?_
      refine q_bipush rfl rfl ?_
      refine q_iload rfl rfl rfl ?_
      refine q_imul rfl rfl (q_tn (z := 0) rfl ?_)
      refine q_iload rfl rfl rfl ?_
      refine q_iadd rfl rfl (q_tn (z := 18) rfl ?_)
      refine q_aload_n rfl rfl rfl ?_
      refine q_getf rfl rfl (by decide) rfl rfl ?_
      refine q_iload rfl rfl rfl ?_
      refine q_iald rfl rfl (by decide) rfl (by decide) (q_tn (z := 0) rfl ?_)
      refine q_iast rfl rfl (by decide) rfl (by decide) ?_
      refine q_icc6 (z := 19) rfl rfl rfl rfl rfl ?_
      refine q_goto rfl ?_
      refine q_iload rfl rfl rfl ?_
      refine q_bipush rfl rfl ?_
      refine q_icge rfl rfl (fun c147 => absurd c147 (by decide)) (fun c147 => ?_)
      refine q_aload_n rfl rfl rfl ?_
      refine q_getf rfl rfl (by decide) rfl rfl ?_
      refine q_bipush rfl rfl ?_
      refine q_iload rfl rfl rfl ?_
      refine q_imul rfl rfl (q_tn (z := 0) rfl ?_)
      refine q_iload rfl rfl rfl ?_
      refine q_iadd rfl rfl (q_tn (z := 19) rfl ?_)
      refine q_aload_n rfl rfl rfl ?_
      refine q_getf rfl rfl (by decide) rfl rfl ?_
      refine q_iload rfl rfl rfl ?_
      refine q_iald rfl rfl (by decide) rfl (by decide) (q_tn (z := 0) rfl ?_)
      refine q_iast rfl rfl (by decide) rfl (by decide) ?_
      refine q_icc6 (z := 20) rfl rfl rfl rfl rfl ?_
      refine q_goto rfl ?_
      refine q_iload rfl rfl rfl ?_
      refine q_bipush rfl rfl ?_
      refine q_icge rfl rfl (fun c148 => ?_) (fun c148 => absurd (by decide) c148)
      refine q_aload_n rfl rfl rfl ?_
      refine q_getf rfl rfl (by decide) rfl rfl ?_
      refine q_iload rfl rfl rfl ?_
      refine q_iload_n rfl rfl rfl ?_
      refine q_iast rfl rfl (by decide) (FW_56 S hW) (by decide) ?_
      refine q_aload_n rfl rfl rfl ?_
      refine q_getf rfl rfl (by decide) rfl rfl ?_
      refine q_iload rfl rfl rfl ?_
      refine q_iload_n rfl rfl rfl ?_
      refine q_iast rfl rfl (by decide) (FW_57 S hW) (by decide) ?_
      refine q_aload_n rfl rfl rfl ?_
      refine q_iload_n rfl rfl rfl ?_
      refine q_nV1 rfl rfl (Or.inl rfl) rfl rfl rfl (by decide) rfl ⟨rfl, rfl⟩ rfl ?_
      change PQ _ _ _ mm_X12_rest 0 [.ref 46, .int 0, pm_un, pm_un] [] _ _ 0 0 _
      refine q_bipush rfl rfl ?_
      refine q_ist2n rfl rfl rfl rfl ?_
      refine q_iconst rfl rfl ?_
      refine q_ist3n rfl rfl rfl rfl ?_
      refine q_iload_n rfl rfl rfl ?_
      refine q_bipush rfl rfl ?_
      refine q_icge rfl rfl (fun c149 => absurd c149 (by decide)) (fun c149 => ?_)
      refine q_bipush rfl rfl ?_
      refine q_iload_n rfl rfl rfl ?_
      refine q_imul rfl rfl (q_tn (z := 527) rfl ?_)
      refine q_aload_n rfl rfl rfl ?_
      refine q_getf rfl rfl (by decide) rfl rfl ?_
      refine q_iload_n rfl rfl rfl ?_
      refine q_iald rfl rfl (by decide) rfl (by decide) (q_tn (z := 10) rfl ?_)
      refine q_iadd rfl rfl (q_tn (z := 537) rfl ?_)
      refine q_ist2n rfl rfl rfl rfl ?_
      refine q_icc3 (z := 1) rfl rfl rfl rfl rfl ?_
      refine q_goto rfl ?_
      refine q_iload_n rfl rfl rfl ?_
      refine q_bipush rfl rfl ?_
      refine q_icge rfl rfl (fun c150 => absurd c150 (by decide)) (fun c150 => ?_)
      refine q_bipush rfl rfl ?_
      refine q_iload_n rfl rfl rfl ?_
      refine q_imul rfl rfl (q_tn (z := 16647) rfl ?_)
      refine q_aload_n rfl rfl rfl ?_
      refine q_getf rfl rfl (by decide) rfl rfl ?_
      refine q_iload_n rfl rfl rfl ?_
      refine q_iald rfl rfl (by decide) rfl (by decide) (q_tn (z := 0) rfl ?_)
      refine q_iadd rfl rfl (q_tn (z := 16647) rfl ?_)
      refine q_ist2n rfl rfl rfl rfl ?_
      refine q_icc3 (z := 2) rfl rfl rfl rfl rfl ?_
      refine q_goto rfl ?_
      refine q_iload_n rfl rfl rfl ?_
      refine q_bipush rfl rfl ?_
      refine q_icge rfl rfl (fun c151 => absurd c151 (by decide)) (fun c151 => ?_)
      refine q_bipush rfl rfl ?_
      refine q_iload_n rfl rfl rfl ?_
      refine q_imul rfl rfl (q_tn (z := 516057) rfl ?_)
      refine q_aload_n rfl rfl rfl ?_
      refine q_getf rfl rfl (by decide) rfl rfl ?_
      refine q_iload_n rfl rfl rfl ?_
      refine q_iald rfl rfl (by decide) rfl (by decide) (q_tn (z := 0) rfl ?_)
      refine q_iadd rfl rfl (q_tn (z := 516057) rfl ?_)
      refine q_ist2n rfl rfl rfl rfl ?_
      refine q_icc3 (z := 3) rfl rfl rfl rfl rfl ?_
      refine q_goto rfl ?_
      refine q_iload_n rfl rfl rfl ?_
      refine q_bipush rfl rfl ?_
      refine q_icge rfl rfl (fun c152 => absurd c152 (by decide)) (fun c152 => ?_)
      refine q_bipush rfl rfl ?_
      refine q_iload_n rfl rfl rfl ?_
      refine q_imul rfl rfl (q_tn (z := 15997767) rfl ?_)
      refine q_aload_n rfl rfl rfl ?_
      refine q_getf rfl rfl (by decide) rfl rfl ?_
      refine q_iload_n rfl rfl rfl ?_
      refine q_iald rfl rfl (by decide) rfl (by decide) (q_tn (z := 0) rfl ?_)
      refine q_iadd rfl rfl (q_tn (z := 15997767) rfl ?_)
      refine q_ist2n rfl rfl rfl rfl ?_
      refine q_icc3 (z := 4) rfl rfl rfl rfl rfl ?_
      refine q_goto rfl ?_
      refine q_iload_n rfl rfl rfl ?_
      refine q_bipush rfl rfl ?_
      refine q_icge rfl rfl (fun c153 => absurd c153 (by decide)) (fun c153 => ?_)
      refine q_bipush rfl rfl ?_
      refine q_iload_n rfl rfl rfl ?_
      refine q_imul rfl rfl (q_tn (z := 495930777) rfl ?_)
      refine q_aload_n rfl rfl rfl ?_
      refine q_getf rfl rfl (by decide) rfl rfl ?_
      refine q_iload_n rfl rfl rfl ?_
      refine q_iald rfl rfl (by decide) rfl (by decide) (q_tn (z := 0) rfl ?_)
      refine q_iadd rfl rfl (q_tn (z := 495930777) rfl ?_)
      refine q_ist2n rfl rfl rfl rfl ?_
      refine q_icc3 (z := 5) rfl rfl rfl rfl rfl ?_
      refine q_goto rfl ?_
      refine q_iload_n rfl rfl rfl ?_
      refine q_bipush rfl rfl ?_
      refine q_icge rfl rfl (fun c154 => absurd c154 (by decide)) (fun c154 => ?_)
      refine q_bipush rfl rfl ?_
      refine q_iload_n rfl rfl rfl ?_
      refine q_imul rfl rfl (q_tn (z := (-1806015097)) rfl ?_)
      refine q_aload_n rfl rfl rfl ?_
      refine q_getf rfl rfl (by decide) rfl rfl ?_
      refine q_iload_n rfl rfl rfl ?_
      refine q_iald rfl rfl (by decide) rfl (by decide) (q_tn (z := 0) rfl ?_)
      refine q_iadd rfl rfl (q_tn (z := (-1806015097)) rfl ?_)
      refine q_ist2n rfl rfl rfl rfl ?_
      refine q_icc3 (z := 6) rfl rfl rfl rfl rfl ?_
      refine q_goto rfl ?_
      refine q_iload_n rfl rfl rfl ?_
      refine q_bipush rfl rfl ?_
      refine q_icge rfl rfl (fun c155 => absurd c155 (by decide)) (fun c155 => ?_)
      refine q_bipush rfl rfl ?_
      refine q_iload_n rfl rfl rfl ?_
      refine q_imul rfl rfl (q_tn (z := (-151893159)) rfl ?_)
      refine q_aload_n rfl rfl rfl ?_
      refine q_getf rfl rfl (by decide) rfl rfl ?_
      refine q_iload_n rfl rfl rfl ?_
      refine q_iald rfl rfl (by decide) rfl (by decide) (q_tn (z := 0) rfl ?_)
      refine q_iadd rfl rfl (q_tn (z := (-151893159)) rfl ?_)
      refine q_ist2n rfl rfl rfl rfl ?_
      refine q_icc3 (z := 7) rfl rfl rfl rfl rfl ?_
      refine q_goto rfl ?_
      refine q_iload_n rfl rfl rfl ?_
      refine q_bipush rfl rfl ?_
      refine q_icge rfl rfl (fun c156 => absurd c156 (by decide)) (fun c156 => ?_)
      refine q_bipush rfl rfl ?_
      refine q_iload_n rfl rfl rfl ?_
      refine q_imul rfl rfl (q_tn (z := (-413720633)) rfl ?_)
      refine q_aload_n rfl rfl rfl ?_
      refine q_getf rfl rfl (by decide) rfl rfl ?_
      refine q_iload_n rfl rfl rfl ?_
      refine q_iald rfl rfl (by decide) rfl (by decide) (q_tn (z := 0) rfl ?_)
      refine q_iadd rfl rfl (q_tn (z := (-413720633)) rfl ?_)
      refine q_ist2n rfl rfl rfl rfl ?_
      refine q_icc3 (z := 8) rfl rfl rfl rfl rfl ?_
      refine q_goto rfl ?_
      refine q_iload_n rfl rfl rfl ?_
      refine q_bipush rfl rfl ?_
      refine q_icge rfl rfl (fun c157 => absurd c157 (by decide)) (fun c157 => ?_)
      refine q_bipush rfl rfl ?_
      refine q_iload_n rfl rfl rfl ?_
      refine q_imul rfl rfl (q_tn (z := 59562265) rfl ?_)
      refine q_aload_n rfl rfl rfl ?_
      refine q_getf rfl rfl (by decide) rfl rfl ?_
      refine q_iload_n rfl rfl rfl ?_
      refine q_iald rfl rfl (by decide) rfl (by decide) (q_tn (z := 0) rfl ?_)
      refine q_iadd rfl rfl (q_tn (z := 59562265) rfl ?_)
      refine q_ist2n rfl rfl rfl rfl ?_
      refine q_icc3 (z := 9) rfl rfl rfl rfl rfl ?_
      refine q_goto rfl ?_
      refine q_iload_n rfl rfl rfl ?_
      refine q_bipush rfl rfl ?_
      refine q_icge rfl rfl (fun c158 => absurd c158 (by decide)) (fun c158 => ?_)
      refine q_bipush rfl rfl ?_
      refine q_iload_n rfl rfl rfl ?_
      refine q_imul rfl rfl (q_tn (z := 1846430215) rfl ?_)
      refine q_aload_n rfl rfl rfl ?_
      refine q_getf rfl rfl (by decide) rfl rfl ?_
      refine q_iload_n rfl rfl rfl ?_
      refine q_iald rfl rfl (by decide) rfl (by decide) (q_tn (z := 0) rfl ?_)
      refine q_iadd rfl rfl (q_tn (z := 1846430215) rfl ?_)
      refine q_ist2n rfl rfl rfl rfl ?_
      refine q_icc3 (z := 10) rfl rfl rfl rfl rfl ?_
      refine q_goto rfl ?_
      refine q_iload_n rfl rfl rfl ?_
      refine q_bipush rfl rfl ?_
      refine q_icge rfl rfl (fun c159 => absurd c159 (by decide)) (fun c159 => ?_)
      refine q_bipush rfl rfl ?_
      refine q_iload_n rfl rfl rfl ?_
      refine q_imul rfl rfl (q_tn (z := 1404761817) rfl ?_)
      refine q_aload_n rfl rfl rfl ?_
      refine q_getf rfl rfl (by decide) rfl rfl ?_
      refine q_iload_n rfl rfl rfl ?_
      refine q_iald rfl rfl (by decide) rfl (by decide) (q_tn (z := 0) rfl ?_)
      refine q_iadd rfl rfl (q_tn (z := 1404761817) rfl ?_)
      refine q_ist2n rfl rfl rfl rfl ?_
      refine q_icc3 (z := 11) rfl rfl rfl rfl rfl ?_
      refine q_goto rfl ?_
      as_aux_lemma =>
        refine q_iload_n rfl rfl rfl ?_
        refine q_bipush rfl rfl ?_
        refine q_icge rfl rfl (fun c160 => absurd c160 (by decide)) (fun c160 => ?_)
        refine q_bipush rfl rfl ?_
        refine q_iload_n rfl rfl rfl ?_
        refine q_imul rfl rfl (q_tn (z := 597943367) rfl ?_)
        refine q_aload_n rfl rfl rfl ?_
        refine q_getf rfl rfl (by decide) rfl rfl ?_
        refine q_iload_n rfl rfl rfl ?_
        refine q_iald rfl rfl (by decide) rfl (by decide) (q_tn (z := 0) rfl ?_)
        refine q_iadd rfl rfl (q_tn (z := 597943367) rfl ?_)
        refine q_ist2n rfl rfl rfl rfl ?_
        refine q_icc3 (z := 12) rfl rfl rfl rfl rfl ?_
        refine q_goto rfl ?_
        refine q_iload_n rfl rfl rfl ?_
        refine q_bipush rfl rfl ?_
        refine q_icge rfl rfl (fun c161 => absurd c161 (by decide)) (fun c161 => ?_)
        refine q_bipush rfl rfl ?_
        refine q_iload_n rfl rfl rfl ?_
        refine q_imul rfl rfl (q_tn (z := 1356375193) rfl ?_)
        refine q_aload_n rfl rfl rfl ?_
        refine q_getf rfl rfl (by decide) rfl rfl ?_
        refine q_iload_n rfl rfl rfl ?_
        refine q_iald rfl rfl (by decide) rfl (by decide) (q_tn (z := 0) rfl ?_)
        refine q_iadd rfl rfl (q_tn (z := 1356375193) rfl ?_)
        refine q_ist2n rfl rfl rfl rfl ?_
        refine q_icc3 (z := 13) rfl rfl rfl rfl rfl ?_
        refine q_goto rfl ?_
        refine q_iload_n rfl rfl rfl ?_
        refine q_bipush rfl rfl ?_
        refine q_icge rfl rfl (fun c162 => absurd c162 (by decide)) (fun c162 => ?_)
        refine q_bipush rfl rfl ?_
        refine q_iload_n rfl rfl rfl ?_
        refine q_imul rfl rfl (q_tn (z := (-902041977)) rfl ?_)
        refine q_aload_n rfl rfl rfl ?_
        refine q_getf rfl rfl (by decide) rfl rfl ?_
        refine q_iload_n rfl rfl rfl ?_
        refine q_iald rfl rfl (by decide) rfl (by decide) (q_tn (z := 0) rfl ?_)
        refine q_iadd rfl rfl (q_tn (z := (-902041977)) rfl ?_)
        refine q_ist2n rfl rfl rfl rfl ?_
        refine q_icc3 (z := 14) rfl rfl rfl rfl rfl ?_
        refine q_goto rfl ?_
        refine q_iload_n rfl rfl rfl ?_
        refine q_bipush rfl rfl ?_
        refine q_icge rfl rfl (fun c163 => absurd c163 (by decide)) (fun c163 => ?_)
        refine q_bipush rfl rfl ?_
        refine q_iload_n rfl rfl rfl ?_
        refine q_imul rfl rfl (q_tn (z := 2101469785) rfl ?_)
        refine q_aload_n rfl rfl rfl ?_
        refine q_getf rfl rfl (by decide) rfl rfl ?_
        refine q_iload_n rfl rfl rfl ?_
        refine q_iald rfl rfl (by decide) rfl (by decide) (q_tn (z := 0) rfl ?_)
        refine q_iadd rfl rfl (q_tn (z := 2101469785) rfl ?_)
        refine q_ist2n rfl rfl rfl rfl ?_
        refine q_icc3 (z := 15) rfl rfl rfl rfl rfl ?_
        refine q_goto rfl ?_
        refine q_iload_n rfl rfl rfl ?_
        refine q_bipush rfl rfl ?_
        refine q_icge rfl rfl (fun c164 => absurd c164 (by decide)) (fun c164 => ?_)
        refine q_bipush rfl rfl ?_
        refine q_iload_n rfl rfl rfl ?_
        refine q_imul rfl rfl (q_tn (z := 721053895) rfl ?_)
        refine q_aload_n rfl rfl rfl ?_
        refine q_getf rfl rfl (by decide) rfl rfl ?_
        refine q_iload_n rfl rfl rfl ?_
        refine q_iald rfl rfl (by decide) rfl (by decide) (q_tn (z := 0) rfl ?_)
        refine q_iadd rfl rfl (q_tn (z := 721053895) rfl ?_)
        refine q_ist2n rfl rfl rfl rfl ?_
        refine q_icc3 (z := 16) rfl rfl rfl rfl rfl ?_
        refine q_goto rfl ?_
        refine q_iload_n rfl rfl rfl ?_
        refine q_bipush rfl rfl ?_
        refine q_icge rfl rfl (fun c165 => absurd c165 (by decide)) (fun c165 => ?_)
        refine q_bipush rfl rfl ?_
        refine q_iload_n rfl rfl rfl ?_
        refine q_imul rfl rfl (q_tn (z := 877834265) rfl ?_)
        refine q_aload_n rfl rfl rfl ?_
        refine q_getf rfl rfl (by decide) rfl rfl ?_
        refine q_iload_n rfl rfl rfl ?_
        refine q_iald rfl rfl (by decide) rfl (by decide) (q_tn (z := 0) rfl ?_)
        refine q_iadd rfl rfl (q_tn (z := 877834265) rfl ?_)
        refine q_ist2n rfl rfl rfl rfl ?_
        refine q_icc3 (z := 17) rfl rfl rfl rfl rfl ?_
        refine q_goto rfl ?_
        refine q_iload_n rfl rfl rfl ?_
        refine q_bipush rfl rfl ?_
        refine q_icge rfl rfl (fun c166 => absurd c166 (by decide)) (fun c166 => ?_)
        refine q_bipush rfl rfl ?_
        refine q_iload_n rfl rfl rfl ?_
        refine q_imul rfl rfl (q_tn (z := 1443058439) rfl ?_)
        refine q_aload_n rfl rfl rfl ?_
        refine q_getf rfl rfl (by decide) rfl rfl ?_
        refine q_iload_n rfl rfl rfl ?_
        refine q_iald rfl rfl (by decide) rfl (by decide) (q_tn (z := 0) rfl ?_)
        refine q_iadd rfl rfl (q_tn (z := 1443058439) rfl ?_)
        refine q_ist2n rfl rfl rfl rfl ?_
        refine q_icc3 (z := 18) rfl rfl rfl rfl rfl ?_
        refine q_goto rfl ?_
        refine q_iload_n rfl rfl rfl ?_
        refine q_bipush rfl rfl ?_
        refine q_icge rfl rfl (fun c167 => absurd c167 (by decide)) (fun c167 => ?_)
        refine q_bipush rfl rfl ?_
        refine q_iload_n rfl rfl rfl ?_
        refine q_imul rfl rfl (q_tn (z := 1785138649) rfl ?_)
        refine q_aload_n rfl rfl rfl ?_
        refine q_getf rfl rfl (by decide) rfl rfl ?_
        refine q_iload_n rfl rfl rfl ?_
        refine q_iald rfl rfl (by decide) rfl (by decide) (q_tn (z := 0) rfl ?_)
        refine q_iadd rfl rfl (q_tn (z := 1785138649) rfl ?_)
        refine q_ist2n rfl rfl rfl rfl ?_
        refine q_icc3 (z := 19) rfl rfl rfl rfl rfl ?_
        refine q_goto rfl ?_
        refine q_iload_n rfl rfl rfl ?_
        refine q_bipush rfl rfl ?_
        refine q_icge rfl rfl (fun c168 => absurd c168 (by decide)) (fun c168 => ?_)
        refine q_bipush rfl rfl ?_
        refine q_iload_n rfl rfl rfl ?_
        refine q_imul rfl rfl (q_tn (z := (-495276729)) rfl ?_)
        refine q_aload_n rfl rfl rfl ?_
        refine q_getf rfl rfl (by decide) rfl rfl ?_
        refine q_iload_n rfl rfl rfl ?_
        refine q_iald rfl rfl (by decide) rfl (by decide) (q_tn (z := 0) rfl ?_)
        refine q_iadd rfl rfl (q_tn (z := (-495276729)) rfl ?_)
        refine q_ist2n rfl rfl rfl rfl ?_
        refine q_icc3 (z := 20) rfl rfl rfl rfl rfl ?_
        refine q_goto rfl ?_
        refine q_iload_n rfl rfl rfl ?_
        refine q_bipush rfl rfl ?_
        refine q_icge rfl rfl (fun c169 => ?_) (fun c169 => absurd (by decide) c169)
        refine q_sipush rfl rfl ?_
        refine q_iload_n rfl rfl rfl ?_
        refine q_imul rfl rfl (q_tn (z := 0) rfl ?_)
        refine q_iload_n rfl rfl rfl ?_
        refine q_iload_n rfl rfl rfl ?_
        refine q_bipush rfl rfl ?_
        refine q_iushr rfl rfl (q_tn (z := 463829) rfl ?_)
        refine q_ixor rfl rfl (q_tn (z := (-495075694)) rfl ?_)
        refine q_sipush rfl rfl ?_
        refine q_irem rfl rfl (by decide) (q_tn (z := (-366)) rfl ?_)
        refine q_iload_n rfl rfl rfl ?_
        refine q_iload_n rfl rfl rfl ?_
        refine q_bipush rfl rfl ?_
        refine q_iushr rfl rfl (q_tn (z := 463829) rfl ?_)
        refine q_ixor rfl rfl (q_tn (z := (-495075694)) rfl ?_)
        refine q_sipush rfl rfl ?_
        refine q_irem rfl rfl (by decide) (q_tn (z := (-366)) rfl ?_)
        refine q_ifge rfl rfl (fun c170 => absurd c170 (by decide)) (fun c170 => ?_)
        refine q_iconst rfl rfl ?_
        refine q_goto rfl ?_
        refine q_imul rfl rfl (q_tn (z := 366) rfl ?_)
        refine q_iadd rfl rfl (q_tn (z := 366) rfl ?_)
        refine q_iret rfl rfl trivial ?_
        refine ⟨_, rfl, ?_⟩
        refine q_ist6 rfl rfl rfl rfl ?_
        refine q_aload_n rfl rfl rfl ?_
        refine q_getf rfl rfl (by decide) rfl rfl ?_
        refine q_iload rfl rfl rfl ?_
        refine q_aload_n rfl rfl rfl ?_
        refine q_getf rfl rfl (by decide) rfl rfl ?_
        refine q_iload rfl rfl rfl ?_
        refine q_iald rfl rfl (by decide) rfl (by decide) (q_tn (z := (-1)) rfl ?_)
        refine q_iast rfl rfl (by decide) (FW_58 S hW) (by decide) ?_
        refine q_aload_n rfl rfl rfl ?_
        refine q_getf rfl rfl (by decide) rfl rfl ?_
        refine q_iload rfl rfl rfl ?_
        refine q_iload rfl rfl rfl ?_
        refine q_iast rfl rfl (by decide) rfl (by decide) ?_
        refine q_aload_n rfl rfl rfl ?_
        refine q_getf rfl rfl (by decide) rfl rfl ?_
        refine q_iload_n rfl rfl rfl ?_
        refine q_dup2 rfl rfl ?_
        refine q_iald rfl rfl (by decide) rfl (by decide) (q_tn (z := 0) rfl ?_)
        refine q_iconst rfl rfl ?_
        refine q_iadd rfl rfl (q_tn (z := 1) rfl ?_)
        refine q_iast rfl rfl (by decide) rfl (by decide) ?_
        refine q_iload rfl rfl rfl ?_
        refine q_iret rfl rfl trivial ?_
        refine ⟨_, rfl, ?_⟩
        refine q_ist3n rfl rfl rfl rfl ?_
        refine q_iconst rfl rfl ?_
        refine q_ist4 rfl rfl rfl rfl ?_
        refine q_iload rfl rfl rfl ?_
        refine q_aload_n rfl rfl rfl ?_
        refine q_getf rfl rfl (by decide) rfl rfl ?_
        refine q_iload_n rfl rfl rfl ?_
        refine q_iald rfl rfl (by decide) rfl (by decide) (q_tn (z := 1) rfl ?_)
        refine q_icge rfl rfl (fun c171 => absurd c171 (by decide)) (fun c171 => ?_)
        refine q_iconst rfl rfl ?_
        refine q_ist5 rfl rfl rfl rfl ?_
        refine q_iload rfl rfl rfl ?_
        refine q_iconst rfl rfl ?_
        refine q_icge rfl rfl (fun c172 => absurd c172 (by decide)) (fun c172 => ?_)
        refine q_iconst rfl rfl ?_
        refine q_sipush rfl rfl ?_
        refine q_iload_n rfl rfl rfl ?_
        refine q_imul rfl rfl (q_tn (z := 0) rfl ?_)
        refine q_iload rfl rfl rfl ?_
        refine q_iadd rfl rfl (q_tn (z := 0) rfl ?_)
        refine q_imul rfl rfl (q_tn (z := 0) rfl ?_)
        refine q_iload rfl rfl rfl ?_
        refine q_iadd rfl rfl (q_tn (z := 0) rfl ?_)
        refine q_ist6 rfl rfl rfl rfl ?_
        refine q_aload_n rfl rfl rfl ?_
        refine q_getf rfl rfl (by decide) rfl rfl ?_
        refine q_iload rfl rfl rfl ?_
        refine q_iconst rfl rfl ?_
        refine q_iast rfl rfl (by decide) (FW_59 S hW) (by decide) ?_
        refine q_aload_n rfl rfl rfl ?_
        refine q_iload_n rfl rfl rfl ?_
        refine q_iload rfl rfl rfl ?_
        refine q_cV2v rfl rfl (Or.inl rfl) rfl rfl rfl (by decide) rfl ⟨rfl, rfl⟩ rfl (fun K' hK' => l_sa (R := 0) (by decide) rfl (by decide) rfl rfl rfl rfl rfl hK') ?_
        refine q_iload rfl rfl rfl ?_
        refine q_aload_n rfl rfl rfl ?_
        refine q_getf rfl rfl (by decide) rfl rfl ?_
        refine q_icge rfl rfl (fun c173 => absurd c173 (by decide)) (fun c173 => ?_)
        refine q_aload_n rfl rfl rfl ?_
        refine q_iload rfl rfl rfl ?_
        refine q_iload_n rfl rfl rfl ?_
        refine q_nV2 rfl rfl (Or.inl rfl) rfl rfl rfl (by decide) rfl ⟨rfl, rfl⟩ rfl ?_
        change PQ _ _ _ mm_X12_maySteps 0 [.ref 46, .int 0, .int 0, pm_un, pm_un, pm_un] [] _ _ 0 0 _
        refine q_aload_n rfl rfl rfl ?_
        refine q_iload_n rfl rfl rfl ?_
        refine q_iload_n rfl rfl rfl ?_
        refine q_nV2 rfl rfl (Or.inl rfl) rfl rfl rfl (by decide) rfl ⟨rfl, rfl⟩ rfl ?_
        change PQ _ _ _ mm_X12_canStep 0 [.ref 46, .int 0, .int 0, pm_un] [] _ _ 0 0 _
        refine q_aload_n rfl rfl rfl ?_
        refine q_iload_n rfl rfl rfl ?_
        refine q_nV1 rfl rfl (Or.inl rfl) rfl rfl rfl (by decide) rfl ⟨rfl, rfl⟩ rfl ?_
        change PQ _ _ _ mm_X12_isOver 0 [.ref 46, .int 0] [] _ _ 0 0 _
        refine q_aload_n rfl rfl rfl ?_
        refine q_getf rfl rfl (by decide) rfl rfl ?_
        refine q_iconst rfl rfl ?_
        refine q_iload_n rfl rfl rfl ?_
        refine q_imul rfl rfl (q_tn (z := 0) rfl ?_)
        refine q_iald rfl rfl (by decide) rfl (by decide) (q_tn (z := 10) rfl ?_)
        refine q_bipush rfl rfl ?_
        refine q_iclt rfl rfl (fun c174 => absurd c174 (by decide)) (fun c174 => ?_)
        refine q_iconst rfl rfl ?_
        refine q_goto rfl ?_
        refine q_iret rfl rfl rfl ?_
        refine ⟨_, rfl, ?_⟩
        refine q_ifeq rfl rfl (fun c175 => absurd c175 (by decide)) (fun c175 => ?_)
        refine q_iconst rfl rfl ?_
        refine q_iret rfl rfl rfl ?_
        refine ⟨_, rfl, ?_⟩
        refine q_ifne rfl rfl (fun c176 => ?_) (fun c176 => absurd (by decide) c176)
        refine q_iconst rfl rfl ?_
        refine q_iret rfl rfl rfl ?_
        refine ⟨_, rfl, ?_⟩
        refine q_ifne rfl rfl (fun c177 => ?_) (fun c177 => absurd (by decide) c177)
        refine q_goto rfl ?_
        refine q_icc5 (z := 1) rfl rfl rfl rfl rfl ?_
        refine q_goto rfl ?_
        refine q_iload rfl rfl rfl ?_
        refine q_iconst rfl rfl ?_
        refine q_icge rfl rfl (fun c178 => absurd c178 (by decide)) (fun c178 => ?_)
        refine q_iconst rfl rfl ?_
        refine q_sipush rfl rfl ?_
        refine q_iload_n rfl rfl rfl ?_
        refine q_imul rfl rfl (q_tn (z := 0) rfl ?_)
        refine q_iload rfl rfl rfl ?_
        refine q_iadd rfl rfl (q_tn (z := 0) rfl ?_)
        refine q_imul rfl rfl (q_tn (z := 0) rfl ?_)
        refine q_iload rfl rfl rfl ?_
        refine q_iadd rfl rfl (q_tn (z := 1) rfl ?_)
        refine q_ist6 rfl rfl rfl rfl ?_
        refine q_aload_n rfl rfl rfl ?_
        refine q_getf rfl rfl (by decide) rfl rfl ?_
        refine q_iload rfl rfl rfl ?_
        refine q_iconst rfl rfl ?_
        refine q_iast rfl rfl (by decide) rfl (by decide) ?_
        refine q_aload_n rfl rfl rfl ?_
        refine q_iload_n rfl rfl rfl ?_
        refine q_iload rfl rfl rfl ?_
        refine q_cV2v rfl rfl (Or.inl rfl) rfl rfl rfl (by decide) rfl ⟨rfl, rfl⟩ rfl (fun K' hK' => l_sa (R := 0) (by decide) rfl (by decide) rfl rfl rfl rfl rfl hK') ?_
        refine q_iload rfl rfl rfl ?_
        refine q_aload_n rfl rfl rfl ?_
        refine q_getf rfl rfl (by decide) rfl rfl ?_
        refine q_icge rfl rfl (fun c179 => ?_) (fun c179 => absurd (by decide) c179)
        refine q_icc5 (z := 2) rfl rfl rfl rfl rfl ?_
        refine q_goto rfl ?_
        refine q_iload rfl rfl rfl ?_
        refine q_iconst rfl rfl ?_
        refine q_icge rfl rfl (fun c180 => absurd c180 (by decide)) (fun c180 => ?_)
        refine q_iconst rfl rfl ?_
        refine q_sipush rfl rfl ?_
        refine q_iload_n rfl rfl rfl ?_
        refine q_imul rfl rfl (q_tn (z := 0) rfl ?_)
        refine q_iload rfl rfl rfl ?_
        refine q_iadd rfl rfl (q_tn (z := 0) rfl ?_)
        refine q_imul rfl rfl (q_tn (z := 0) rfl ?_)
        refine q_iload rfl rfl rfl ?_
        refine q_iadd rfl rfl (q_tn (z := 2) rfl ?_)
        refine q_ist6 rfl rfl rfl rfl ?_
        refine q_aload_n rfl rfl rfl ?_
        refine q_getf rfl rfl (by decide) rfl rfl ?_
        refine q_iload rfl rfl rfl ?_
        refine q_iconst rfl rfl ?_
        refine q_iast rfl rfl (by decide) rfl (by decide) ?_
        refine q_aload_n rfl rfl rfl ?_
        refine q_iload_n rfl rfl rfl ?_
        refine q_iload rfl rfl rfl ?_
        refine q_cV2v rfl rfl (Or.inl rfl) rfl rfl rfl (by decide) rfl ⟨rfl, rfl⟩ rfl (fun K' hK' => l_sa (R := 0) (by decide) rfl (by decide) rfl rfl rfl rfl rfl hK') ?_
        refine q_iload rfl rfl rfl ?_
        refine q_aload_n rfl rfl rfl ?_
        refine q_getf rfl rfl (by decide) rfl rfl ?_
        refine q_icge rfl rfl (fun c181 => ?_) (fun c181 => absurd (by decide) c181)
        refine q_icc5 (z := 3) rfl rfl rfl rfl rfl ?_
        refine q_goto rfl ?_
        refine q_iload rfl rfl rfl ?_
        refine q_iconst rfl rfl ?_
        refine q_icge rfl rfl (fun c182 => ?_) (fun c182 => absurd (by decide) c182)
        refine q_icc4 (z := 1) rfl rfl rfl rfl rfl ?_
        refine q_goto rfl ?_
        refine q_iload rfl rfl rfl ?_
        refine q_aload_n rfl rfl rfl ?_
        refine q_getf rfl rfl (by decide) rfl rfl ?_
        refine q_iload_n rfl rfl rfl ?_
        refine q_iald rfl rfl (by decide) rfl (by decide) (q_tn (z := 1) rfl ?_)
        refine q_icge rfl rfl (fun c183 => ?_) (fun c183 => absurd (by decide) c183)
        refine q_iconst rfl rfl ?_
        refine q_iret rfl rfl rfl ?_
        refine ⟨_, rfl, ?_⟩
        refine q_ifeq rfl rfl (fun c184 => absurd c184 (by decide)) (fun c184 => ?_)
        refine q_iconst rfl rfl ?_
        refine q_goto rfl ?_
        refine q_iast rfl rfl (by decide) (FW_62 S hW) (by decide) ?_
        refine q_iload_n rfl rfl rfl ?_
        refine q_ifne rfl rfl (fun c185 => ?_) (fun c185 => absurd (by decide) c185)
        refine q_aload_n rfl rfl rfl ?_
        refine q_iconst rfl rfl ?_
        refine q_putf rfl rfl (by decide) rfl (by decide) rfl rfl ?_
        refine q_aload_n rfl rfl rfl ?_
        refine q_getf rfl rfl (by decide) rfl rfl ?_
        refine q_iload_n rfl rfl rfl ?_
        refine q_aload_n rfl rfl rfl ?_
        refine q_getf rfl rfl (by decide) rfl rfl ?_
        refine q_iload_n rfl rfl rfl ?_
        refine q_iald rfl rfl (by decide) rfl (by decide) (q_tn (z := 1) rfl ?_)
        refine q_iast rfl rfl (by decide) (FW_63 S hW) (by decide) ?_
        refine q_iconst rfl rfl ?_
        refine q_ist3n rfl rfl rfl rfl ?_
        refine q_iload_n rfl rfl rfl ?_
        refine q_iconst rfl rfl ?_
        refine q_icge rfl rfl (fun c186 => absurd c186 (by decide)) (fun c186 => ?_)
        refine q_aload_n rfl rfl rfl ?_
        refine q_getf rfl rfl (by decide) rfl rfl ?_
        refine q_iconst rfl rfl ?_
        refine q_iload_n rfl rfl rfl ?_
        refine q_imul rfl rfl (q_tn (z := 0) rfl ?_)
        refine q_iload_n rfl rfl rfl ?_
        refine q_iadd rfl rfl (q_tn (z := 0) rfl ?_)
        refine q_iconst rfl rfl ?_
        refine q_iast rfl rfl (by decide) (FW_64 S hW) (by decide) ?_
        refine q_icc3 (z := 1) rfl rfl rfl rfl rfl ?_
        refine q_goto rfl ?_
        refine q_iload_n rfl rfl rfl ?_
        refine q_iconst rfl rfl ?_
        refine q_icge rfl rfl (fun c187 => absurd c187 (by decide)) (fun c187 => ?_)
        refine q_aload_n rfl rfl rfl ?_
        refine q_getf rfl rfl (by decide) rfl rfl ?_
        refine q_iconst rfl rfl ?_
        refine q_iload_n rfl rfl rfl ?_
        refine q_imul rfl rfl (q_tn (z := 0) rfl ?_)
        refine q_iload_n rfl rfl rfl ?_
        refine q_iadd rfl rfl (q_tn (z := 1) rfl ?_)
        refine q_iconst rfl rfl ?_
        refine q_iast rfl rfl (by decide) rfl (by decide) ?_
        refine q_icc3 (z := 2) rfl rfl rfl rfl rfl ?_
        refine q_goto rfl ?_
        refine q_iload_n rfl rfl rfl ?_
        refine q_iconst rfl rfl ?_
        refine q_icge rfl rfl (fun c188 => absurd c188 (by decide)) (fun c188 => ?_)
        refine q_aload_n rfl rfl rfl ?_
        refine q_getf rfl rfl (by decide) rfl rfl ?_
        refine q_iconst rfl rfl ?_
        refine q_iload_n rfl rfl rfl ?_
        refine q_imul rfl rfl (q_tn (z := 0) rfl ?_)
        refine q_iload_n rfl rfl rfl ?_
        refine q_iadd rfl rfl (q_tn (z := 2) rfl ?_)
        refine q_iconst rfl rfl ?_
        refine q_iast rfl rfl (by decide) rfl (by decide) ?_
        refine q_icc3 (z := 3) rfl rfl rfl rfl rfl ?_
        refine q_goto rfl ?_
        refine q_iload_n rfl rfl rfl ?_
        refine q_iconst rfl rfl ?_
        refine q_icge rfl rfl (fun c189 => absurd c189 (by decide)) (fun c189 => ?_)
        refine q_aload_n rfl rfl rfl ?_
        refine q_getf rfl rfl (by decide) rfl rfl ?_
        refine q_iconst rfl rfl ?_
        refine q_iload_n rfl rfl rfl ?_
        refine q_imul rfl rfl (q_tn (z := 0) rfl ?_)
        refine q_iload_n rfl rfl rfl ?_
        refine q_iadd rfl rfl (q_tn (z := 3) rfl ?_)
        refine q_iconst rfl rfl ?_
        refine q_iast rfl rfl (by decide) rfl (by decide) ?_
        refine q_icc3 (z := 4) rfl rfl rfl rfl rfl ?_
        refine q_goto rfl ?_
        refine q_iload_n rfl rfl rfl ?_
        refine q_iconst rfl rfl ?_
        refine q_icge rfl rfl (fun c190 => ?_) (fun c190 => absurd (by decide) c190)
        refine q_iconst rfl rfl ?_
        refine q_ist3n rfl rfl rfl rfl ?_
        refine q_iload_n rfl rfl rfl ?_
        refine q_aload_n rfl rfl rfl ?_
        refine q_getf rfl rfl (by decide) rfl rfl ?_
        refine q_iload_n rfl rfl rfl ?_
        refine q_iald rfl rfl (by decide) rfl (by decide) (q_tn (z := 1) rfl ?_)
        refine q_icge rfl rfl (fun c191 => absurd c191 (by decide)) (fun c191 => ?_)
        refine q_aload_n rfl rfl rfl ?_
        refine q_iload_n rfl rfl rfl ?_
        refine q_iload_n rfl rfl rfl ?_
        refine q_cV2v rfl rfl (Or.inl rfl) rfl rfl rfl (by decide) rfl ⟨rfl, rfl⟩ rfl (fun K' hK' => l_sa (R := 0) (by decide) rfl (by decide) rfl rfl rfl rfl rfl hK') ?_
        refine q_aload_n rfl rfl rfl ?_
        refine q_nV0 rfl rfl (Or.inl rfl) rfl rfl rfl (by decide) rfl ⟨rfl, rfl⟩ rfl ?_
        change PQ _ _ _ mm_X12_isEnd 0 [.ref 46, pm_un, pm_un] [] _ _ 0 0 _
        refine q_iconst rfl rfl ?_
        refine q_ist1n rfl rfl rfl rfl ?_
        refine q_iconst rfl rfl ?_
        refine q_ist2n rfl rfl rfl rfl ?_
        refine q_iload_n rfl rfl rfl ?_
        refine q_aload_n rfl rfl rfl ?_
        refine q_getf rfl rfl (by decide) rfl rfl ?_
        refine q_icge rfl rfl (fun c192 => absurd c192 (by decide)) (fun c192 => ?_)
        refine q_iload_n rfl rfl rfl ?_
        refine q_ifeq rfl rfl (fun c193 => absurd c193 (by decide)) (fun c193 => ?_)
        refine q_aload_n rfl rfl rfl ?_
        refine q_iload_n rfl rfl rfl ?_
        refine q_nV1 rfl rfl (Or.inl rfl) rfl rfl rfl (by decide) rfl ⟨rfl, rfl⟩ rfl ?_
        change PQ _ _ _ mm_X12_isOver 0 [.ref 46, .int 0] [] _ _ 0 0 _
        refine q_aload_n rfl rfl rfl ?_
        refine q_getf rfl rfl (by decide) rfl rfl ?_
        refine q_iconst rfl rfl ?_
        refine q_iload_n rfl rfl rfl ?_
        refine q_imul rfl rfl (q_tn (z := 0) rfl ?_)
        refine q_iald rfl rfl (by decide) rfl (by decide) (q_tn (z := 10) rfl ?_)
        refine q_bipush rfl rfl ?_
        refine q_iclt rfl rfl (fun c194 => absurd c194 (by decide)) (fun c194 => ?_)
        refine q_iconst rfl rfl ?_
        refine q_goto rfl ?_
        refine q_iret rfl rfl rfl ?_
        refine ⟨_, rfl, ?_⟩
        refine q_ifeq rfl rfl (fun c195 => absurd c195 (by decide)) (fun c195 => ?_)
        refine q_iconst rfl rfl ?_
        refine q_goto rfl ?_
        refine q_ist1n rfl rfl rfl rfl ?_
        refine q_icc2 (z := 1) rfl rfl rfl rfl rfl ?_
        refine q_goto rfl ?_
        refine q_iload_n rfl rfl rfl ?_
        refine q_aload_n rfl rfl rfl ?_
        refine q_getf rfl rfl (by decide) rfl rfl ?_
        refine q_icge rfl rfl (fun c196 => ?_) (fun c196 => absurd (by decide) c196)
        refine q_iload_n rfl rfl rfl ?_
        refine q_iret rfl rfl rfl ?_
        refine ⟨_, rfl, ?_⟩
        refine q_ifne rfl rfl (fun c197 => absurd c197 (by decide)) (fun c197 => ?_)
        refine q_iconst rfl rfl ?_
        refine q_ist4 rfl rfl rfl rfl ?_
        refine q_iload rfl rfl rfl ?_
        refine q_iconst rfl rfl ?_
        refine q_icge rfl rfl (fun c198 => absurd c198 (by decide)) (fun c198 => ?_)
        refine q_aload_n rfl rfl rfl ?_
        refine q_getf rfl rfl (by decide) rfl rfl ?_
        refine q_iconst rfl rfl ?_
        refine q_iload_n rfl rfl rfl ?_
        refine q_imul rfl rfl (q_tn (z := 0) rfl ?_)
        refine q_iload rfl rfl rfl ?_
        refine q_iadd rfl rfl (q_tn (z := 0) rfl ?_)
        refine q_dup2 rfl rfl ?_
        refine q_iald rfl rfl (by decide) rfl (by decide) (q_tn (z := 0) rfl ?_)
        refine q_iconst rfl rfl ?_
        refine q_aload_n rfl rfl rfl ?_
        refine q_getf rfl rfl (by decide) rfl rfl ?_
        refine q_bipush rfl rfl ?_
        refine q_iload rfl rfl rfl ?_
        refine q_iadd rfl rfl (q_tn (z := 12) rfl ?_)
        refine q_iald rfl rfl (by decide) rfl (by decide) (q_tn (z := 0) rfl ?_)
        refine q_ishl rfl rfl (q_tn (z := 1) rfl ?_)
        refine q_ior rfl rfl (q_tn (z := 1) rfl ?_)
        refine q_iast rfl rfl (by decide) rfl (by decide) ?_
        refine q_icc4 (z := 1) rfl rfl rfl rfl rfl ?_
        refine q_goto rfl ?_
        refine q_iload rfl rfl rfl ?_
        refine q_iconst rfl rfl ?_
        refine q_icge rfl rfl (fun c199 => absurd c199 (by decide)) (fun c199 => ?_)
        refine q_aload_n rfl rfl rfl ?_
        refine q_getf rfl rfl (by decide) rfl rfl ?_
        refine q_iconst rfl rfl ?_
        refine q_iload_n rfl rfl rfl ?_
        refine q_imul rfl rfl (q_tn (z := 0) rfl ?_)
        refine q_iload rfl rfl rfl ?_
        refine q_iadd rfl rfl (q_tn (z := 1) rfl ?_)
        refine q_dup2 rfl rfl ?_
        refine q_iald rfl rfl (by decide) rfl (by decide) (q_tn (z := 0) rfl ?_)
        refine q_iconst rfl rfl ?_
        refine q_aload_n rfl rfl rfl ?_
        refine q_getf rfl rfl (by decide) rfl rfl ?_
        refine q_bipush rfl rfl ?_
        refine q_iload rfl rfl rfl ?_
        refine q_iadd rfl rfl (q_tn (z := 13) rfl ?_)
        refine q_iald rfl rfl (by decide) rfl (by decide) (q_tn (z := 0) rfl ?_)
        refine q_ishl rfl rfl (q_tn (z := 1) rfl ?_)
        refine q_ior rfl rfl (q_tn (z := 1) rfl ?_)
        refine q_iast rfl rfl (by decide) rfl (by decide) ?_
        refine q_icc4 (z := 2) rfl rfl rfl rfl rfl ?_
        refine q_goto rfl ?_
        refine q_iload rfl rfl rfl ?_
        refine q_iconst rfl rfl ?_
        refine q_icge rfl rfl (fun c200 => absurd c200 (by decide)) (fun c200 => ?_)
        refine q_aload_n rfl rfl rfl ?_
        refine q_getf rfl rfl (by decide) rfl rfl ?_
        refine q_iconst rfl rfl ?_
        refine q_iload_n rfl rfl rfl ?_
        refine q_imul rfl rfl (q_tn (z := 0) rfl ?_)
        refine q_iload rfl rfl rfl ?_
        refine q_iadd rfl rfl (q_tn (z := 2) rfl ?_)
        refine q_dup2 rfl rfl ?_
        refine q_iald rfl rfl (by decide) rfl (by decide) (q_tn (z := 0) rfl ?_)
        refine q_iconst rfl rfl ?_
        refine q_aload_n rfl rfl rfl ?_
        refine q_getf rfl rfl (by decide) rfl rfl ?_
        refine q_bipush rfl rfl ?_
        refine q_iload rfl rfl rfl ?_
        refine q_iadd rfl rfl (q_tn (z := 14) rfl ?_)
        refine q_iald rfl rfl (by decide) rfl (by decide) (q_tn (z := 0) rfl ?_)
        refine q_ishl rfl rfl (q_tn (z := 1) rfl ?_)
        refine q_ior rfl rfl (q_tn (z := 1) rfl ?_)
        refine q_iast rfl rfl (by decide) rfl (by decide) ?_
        refine q_icc4 (z := 3) rfl rfl rfl rfl rfl ?_
        refine q_goto rfl ?_
        refine q_iload rfl rfl rfl ?_
        refine q_iconst rfl rfl ?_
        refine q_icge rfl rfl (fun c201 => absurd c201 (by decide)) (fun c201 => ?_)
        refine q_aload_n rfl rfl rfl ?_
        refine q_getf rfl rfl (by decide) rfl rfl ?_
        refine q_iconst rfl rfl ?_
        refine q_iload_n rfl rfl rfl ?_
        refine q_imul rfl rfl (q_tn (z := 0) rfl ?_)
        refine q_iload rfl rfl rfl ?_
        refine q_iadd rfl rfl (q_tn (z := 3) rfl ?_)
        refine q_dup2 rfl rfl ?_
        refine q_iald rfl rfl (by decide) rfl (by decide) (q_tn (z := 0) rfl ?_)
        refine q_iconst rfl rfl ?_
        refine q_aload_n rfl rfl rfl ?_
        refine q_getf rfl rfl (by decide) rfl rfl ?_
        refine q_bipush rfl rfl ?_
        refine q_iload rfl rfl rfl ?_
        refine q_iadd rfl rfl (q_tn (z := 15) rfl ?_)
        refine q_iald rfl rfl (by decide) rfl (by decide) (q_tn (z := 0) rfl ?_)
        refine q_ishl rfl rfl (q_tn (z := 1) rfl ?_)
        refine q_ior rfl rfl (q_tn (z := 1) rfl ?_)
        refine q_iast rfl rfl (by decide) rfl (by decide) ?_
        refine q_icc4 (z := 4) rfl rfl rfl rfl rfl ?_
        refine q_goto rfl ?_
        refine q_iload rfl rfl rfl ?_
        refine q_iconst rfl rfl ?_
        refine q_icge rfl rfl (fun c202 => ?_) (fun c202 => absurd (by decide) c202)
        refine q_icc3 (z := 1) rfl rfl rfl rfl rfl ?_
        refine q_goto rfl ?_
        refine q_iload_n rfl rfl rfl ?_
        refine q_aload_n rfl rfl rfl ?_
        refine q_getf rfl rfl (by decide) rfl rfl ?_
        refine q_iload_n rfl rfl rfl ?_
        refine q_iald rfl rfl (by decide) rfl (by decide) (q_tn (z := 1) rfl ?_)
        refine q_icge rfl rfl (fun c203 => ?_) (fun c203 => absurd (by decide) c203)
        refine q_aload_n rfl rfl rfl ?_
        refine q_getf rfl rfl (by decide) rfl rfl ?_
        refine q_iload_n rfl rfl rfl ?_
        refine q_iald rfl rfl (by decide) rfl (by decide) (q_tn (z := 1) rfl ?_)
        refine q_iconst rfl rfl ?_
        refine q_icne rfl rfl (fun c204 => absurd c204 (by decide)) (fun c204 => ?_)
        refine q_iconst rfl rfl ?_
        refine q_iret rfl rfl rfl ?_
        refine ⟨_, rfl, ?_⟩
        refine q_ifeq rfl rfl (fun c205 => ?_) (fun c205 => absurd (by decide) c205)
        refine q_iload_n rfl rfl rfl ?_
        refine q_aload_n rfl rfl rfl ?_
        refine q_getf rfl rfl (by decide) rfl rfl ?_
        refine q_iconst rfl rfl ?_
        refine q_iald rfl rfl (by decide) rfl (by decide) (q_tn (z := 1) rfl ?_)
        refine q_iclt rfl rfl (fun c206 => ?_) (fun c206 => absurd (by decide) c206)
        refine q_iconst rfl rfl ?_
        refine q_iret rfl rfl trivial ?_
        refine ⟨_, rfl, ?_⟩
        refine q_ifeq rfl rfl (fun c207 => ?_) (fun c207 => absurd (by decide) c207)
        refine q_aload_n rfl rfl rfl ?_
        refine q_iconst rfl rfl ?_
        refine q_iload_n rfl rfl rfl ?_
        refine q_cV2v rfl rfl (Or.inl rfl) rfl rfl rfl (by decide) rfl ⟨rfl, rfl⟩ rfl (fun K' hK' => l_sa (R := 0) (by decide) rfl (by decide) rfl rfl rfl rfl rfl hK') ?_
        refine q_aload_n rfl rfl rfl ?_
        refine q_nV0 rfl rfl (Or.inl rfl) rfl rfl rfl (by decide) rfl ⟨rfl, rfl⟩ rfl ?_
        change PQ _ _ _ mm_X12_settle 0 [.ref 46, pm_un] [] _ _ 0 0 _
        refine q_aload_n rfl rfl rfl ?_
        refine q_nV0 rfl rfl (Or.inl rfl) rfl rfl rfl (by decide) rfl ⟨rfl, rfl⟩ rfl ?_
        change PQ _ _ _ mm_X12_isRun 0 [.ref 46, pm_un, pm_un] [] _ _ 0 0 _
        refine q_iconst rfl rfl ?_
        refine q_ist1n rfl rfl rfl rfl ?_
        refine q_iconst rfl rfl ?_
        refine q_ist2n rfl rfl rfl rfl ?_
        refine q_iload_n rfl rfl rfl ?_
        refine q_bipush rfl rfl ?_
        refine q_icge rfl rfl (fun c208 => absurd c208 (by decide)) (fun c208 => ?_)
        refine q_iload_n rfl rfl rfl ?_
        refine q_ifeq rfl rfl (fun c209 => absurd c209 (by decide)) (fun c209 => ?_)
        refine q_aload_n rfl rfl rfl ?_
        refine q_getf rfl rfl (by decide) rfl rfl ?_
        refine q_iload_n rfl rfl rfl ?_
        refine q_iald rfl rfl (by decide) rfl (by decide) (q_tn (z := 10) rfl ?_)
        refine q_aload_n rfl rfl rfl ?_
        refine q_getf rfl rfl (by decide) rfl rfl ?_
        refine q_iload_n rfl rfl rfl ?_
        refine q_iald rfl rfl (by decide) (FW_54 S hW) (by decide) (q_tn (z := 10) rfl ?_)
        refine q_icne rfl rfl (fun c210 => ?_) (fun c210 => absurd (by decide) c210)
        refine q_iconst rfl rfl ?_
        refine q_goto rfl ?_
        refine q_ist1n rfl rfl rfl rfl ?_
        refine q_icc2 (z := 1) rfl rfl rfl rfl rfl ?_
        refine q_goto rfl ?_
        refine q_iload_n rfl rfl rfl ?_
        refine q_bipush rfl rfl ?_
        refine q_icge rfl rfl (fun c211 => absurd c211 (by decide)) (fun c211 => ?_)
        refine q_iload_n rfl rfl rfl ?_
        refine q_ifeq rfl rfl (fun c212 => absurd c212 (by decide)) (fun c212 => ?_)
        refine q_aload_n rfl rfl rfl ?_
        refine q_getf rfl rfl (by decide) rfl rfl ?_
        refine q_iload_n rfl rfl rfl ?_
        refine q_iald rfl rfl (by decide) rfl (by decide) (q_tn (z := 0) rfl ?_)
        refine q_aload_n rfl rfl rfl ?_
        refine q_getf rfl rfl (by decide) rfl rfl ?_
        refine q_iload_n rfl rfl rfl ?_
        refine q_iald rfl rfl (by decide) (FW_54 S hW) (by decide) (q_tn (z := 0) rfl ?_)
        refine q_icne rfl rfl (fun c213 => ?_) (fun c213 => absurd (by decide) c213)
        refine q_iconst rfl rfl ?_
        refine q_goto rfl ?_
        refine q_ist1n rfl rfl rfl rfl ?_
        refine q_icc2 (z := 2) rfl rfl rfl rfl rfl ?_
        refine q_goto rfl ?_
        refine q_iload_n rfl rfl rfl ?_
        refine q_bipush rfl rfl ?_
        refine q_icge rfl rfl (fun c214 => absurd c214 (by decide)) (fun c214 => ?_)
        refine q_iload_n rfl rfl rfl ?_
        refine q_ifeq rfl rfl (fun c215 => absurd c215 (by decide)) (fun c215 => ?_)
        refine q_aload_n rfl rfl rfl ?_
        refine q_getf rfl rfl (by decide) rfl rfl ?_
        refine q_iload_n rfl rfl rfl ?_
        refine q_iald rfl rfl (by decide) rfl (by decide) (q_tn (z := 0) rfl ?_)
        refine q_aload_n rfl rfl rfl ?_
        refine q_getf rfl rfl (by decide) rfl rfl ?_
        refine q_iload_n rfl rfl rfl ?_
        refine q_iald rfl rfl (by decide) (FW_54 S hW) (by decide) (q_tn (z := 0) rfl ?_)
        refine q_icne rfl rfl (fun c216 => ?_) (fun c216 => absurd (by decide) c216)
        refine q_iconst rfl rfl ?_
        refine q_goto rfl ?_
        refine q_ist1n rfl rfl rfl rfl ?_
        refine q_icc2 (z := 3) rfl rfl rfl rfl rfl ?_
        refine q_goto rfl ?_
        refine q_iload_n rfl rfl rfl ?_
        refine q_bipush rfl rfl ?_
        refine q_icge rfl rfl (fun c217 => absurd c217 (by decide)) (fun c217 => ?_)
        refine q_iload_n rfl rfl rfl ?_
        refine q_ifeq rfl rfl (fun c218 => absurd c218 (by decide)) (fun c218 => ?_)
        refine q_aload_n rfl rfl rfl ?_
        refine q_getf rfl rfl (by decide) rfl rfl ?_
        refine q_iload_n rfl rfl rfl ?_
        refine q_iald rfl rfl (by decide) rfl (by decide) (q_tn (z := 0) rfl ?_)
        refine q_aload_n rfl rfl rfl ?_
        refine q_getf rfl rfl (by decide) rfl rfl ?_
        refine q_iload_n rfl rfl rfl ?_
        refine q_iald rfl rfl (by decide) (FW_54 S hW) (by decide) (q_tn (z := 0) rfl ?_)
        refine q_icne rfl rfl (fun c219 => ?_) (fun c219 => absurd (by decide) c219)
        refine q_iconst rfl rfl ?_
        refine q_goto rfl ?_
        refine q_ist1n rfl rfl rfl rfl ?_
        refine q_icc2 (z := 4) rfl rfl rfl rfl rfl ?_
        refine q_goto rfl ?_
        refine q_iload_n rfl rfl rfl ?_
        refine q_bipush rfl rfl ?_
        refine q_icge rfl rfl (fun c220 => absurd c220 (by decide)) (fun c220 => ?_)
        refine q_iload_n rfl rfl rfl ?_
        refine q_ifeq rfl rfl (fun c221 => absurd c221 (by decide)) (fun c221 => ?_)
        refine q_aload_n rfl rfl rfl ?_
        refine q_getf rfl rfl (by decide) rfl rfl ?_
        refine q_iload_n rfl rfl rfl ?_
        refine q_iald rfl rfl (by decide) rfl (by decide) (q_tn (z := 0) rfl ?_)
        refine q_aload_n rfl rfl rfl ?_
        refine q_getf rfl rfl (by decide) rfl rfl ?_
        refine q_iload_n rfl rfl rfl ?_
        refine q_iald rfl rfl (by decide) (FW_54 S hW) (by decide) (q_tn (z := 0) rfl ?_)
        refine q_icne rfl rfl (fun c222 => ?_) (fun c222 => absurd (by decide) c222)
        refine q_iconst rfl rfl ?_
        refine q_goto rfl ?_
        refine q_ist1n rfl rfl rfl rfl ?_
        refine q_icc2 (z := 5) rfl rfl rfl rfl rfl ?_
        refine q_goto rfl ?_
        refine q_iload_n rfl rfl rfl ?_
        refine q_bipush rfl rfl ?_
        refine q_icge rfl rfl (fun c223 => absurd c223 (by decide)) (fun c223 => ?_)
        refine q_iload_n rfl rfl rfl ?_
        refine q_ifeq rfl rfl (fun c224 => absurd c224 (by decide)) (fun c224 => ?_)
        refine q_aload_n rfl rfl rfl ?_
        refine q_getf rfl rfl (by decide) rfl rfl ?_
        refine q_iload_n rfl rfl rfl ?_
        refine q_iald rfl rfl (by decide) rfl (by decide) (q_tn (z := 0) rfl ?_)
        refine q_aload_n rfl rfl rfl ?_
        refine q_getf rfl rfl (by decide) rfl rfl ?_
        refine q_iload_n rfl rfl rfl ?_
        refine q_iald rfl rfl (by decide) (FW_54 S hW) (by decide) (q_tn (z := 0) rfl ?_)
        refine q_icne rfl rfl (fun c225 => ?_) (fun c225 => absurd (by decide) c225)
        refine q_iconst rfl rfl ?_
        refine q_goto rfl ?_
        refine q_ist1n rfl rfl rfl rfl ?_
        refine q_icc2 (z := 6) rfl rfl rfl rfl rfl ?_
        refine q_goto rfl ?_
        refine q_iload_n rfl rfl rfl ?_
        refine q_bipush rfl rfl ?_
        refine q_icge rfl rfl (fun c226 => absurd c226 (by decide)) (fun c226 => ?_)
        refine q_iload_n rfl rfl rfl ?_
        refine q_ifeq rfl rfl (fun c227 => absurd c227 (by decide)) (fun c227 => ?_)
        refine q_aload_n rfl rfl rfl ?_
        refine q_getf rfl rfl (by decide) rfl rfl ?_
        refine q_iload_n rfl rfl rfl ?_
        refine q_iald rfl rfl (by decide) rfl (by decide) (q_tn (z := 0) rfl ?_)
        refine q_aload_n rfl rfl rfl ?_
        refine q_getf rfl rfl (by decide) rfl rfl ?_
        refine q_iload_n rfl rfl rfl ?_
        refine q_iald rfl rfl (by decide) (FW_54 S hW) (by decide) (q_tn (z := 0) rfl ?_)
        refine q_icne rfl rfl (fun c228 => ?_) (fun c228 => absurd (by decide) c228)
        refine q_iconst rfl rfl ?_
        refine q_goto rfl ?_
        refine q_ist1n rfl rfl rfl rfl ?_
        refine q_icc2 (z := 7) rfl rfl rfl rfl rfl ?_
        refine q_goto rfl ?_
        refine q_iload_n rfl rfl rfl ?_
        refine q_bipush rfl rfl ?_
        refine q_icge rfl rfl (fun c229 => absurd c229 (by decide)) (fun c229 => ?_)
        refine q_iload_n rfl rfl rfl ?_
        refine q_ifeq rfl rfl (fun c230 => absurd c230 (by decide)) (fun c230 => ?_)
        refine q_aload_n rfl rfl rfl ?_
        refine q_getf rfl rfl (by decide) rfl rfl ?_
        refine q_iload_n rfl rfl rfl ?_
        refine q_iald rfl rfl (by decide) rfl (by decide) (q_tn (z := 0) rfl ?_)
        refine q_aload_n rfl rfl rfl ?_
        refine q_getf rfl rfl (by decide) rfl rfl ?_
        refine q_iload_n rfl rfl rfl ?_
        refine q_iald rfl rfl (by decide) (FW_54 S hW) (by decide) (q_tn (z := 0) rfl ?_)
        refine q_icne rfl rfl (fun c231 => ?_) (fun c231 => absurd (by decide) c231)
        refine q_iconst rfl rfl ?_
        refine q_goto rfl ?_
        refine q_ist1n rfl rfl rfl rfl ?_
        refine q_icc2 (z := 8) rfl rfl rfl rfl rfl ?_
        refine q_goto rfl ?_
        refine q_iload_n rfl rfl rfl ?_
        refine q_bipush rfl rfl ?_
        refine q_icge rfl rfl (fun c232 => absurd c232 (by decide)) (fun c232 => ?_)
        refine q_iload_n rfl rfl rfl ?_
        refine q_ifeq rfl rfl (fun c233 => absurd c233 (by decide)) (fun c233 => ?_)
        refine q_aload_n rfl rfl rfl ?_
        refine q_getf rfl rfl (by decide) rfl rfl ?_
        refine q_iload_n rfl rfl rfl ?_
        refine q_iald rfl rfl (by decide) rfl (by decide) (q_tn (z := 0) rfl ?_)
        refine q_aload_n rfl rfl rfl ?_
        refine q_getf rfl rfl (by decide) rfl rfl ?_
        refine q_iload_n rfl rfl rfl ?_
        refine q_iald rfl rfl (by decide) (FW_54 S hW) (by decide) (q_tn (z := 0) rfl ?_)
        refine q_icne rfl rfl (fun c234 => ?_) (fun c234 => absurd (by decide) c234)
        refine q_iconst rfl rfl ?_
        refine q_goto rfl ?_
        refine q_ist1n rfl rfl rfl rfl ?_
        refine q_icc2 (z := 9) rfl rfl rfl rfl rfl ?_
        refine q_goto rfl ?_
        refine q_iload_n rfl rfl rfl ?_
        refine q_bipush rfl rfl ?_
        refine q_icge rfl rfl (fun c235 => absurd c235 (by decide)) (fun c235 => ?_)
        refine q_iload_n rfl rfl rfl ?_
        refine q_ifeq rfl rfl (fun c236 => absurd c236 (by decide)) (fun c236 => ?_)
        refine q_aload_n rfl rfl rfl ?_
        refine q_getf rfl rfl (by decide) rfl rfl ?_
        refine q_iload_n rfl rfl rfl ?_
        refine q_iald rfl rfl (by decide) rfl (by decide) (q_tn (z := 0) rfl ?_)
        refine q_aload_n rfl rfl rfl ?_
        refine q_getf rfl rfl (by decide) rfl rfl ?_
        refine q_iload_n rfl rfl rfl ?_
        refine q_iald rfl rfl (by decide) (FW_54 S hW) (by decide) (q_tn (z := 0) rfl ?_)
        refine q_icne rfl rfl (fun c237 => ?_) (fun c237 => absurd (by decide) c237)
        refine q_iconst rfl rfl ?_
        refine q_goto rfl ?_
        refine q_ist1n rfl rfl rfl rfl ?_
        refine q_icc2 (z := 10) rfl rfl rfl rfl rfl ?_
        refine q_goto rfl ?_
        refine q_iload_n rfl rfl rfl ?_
        refine q_bipush rfl rfl ?_
        refine q_icge rfl rfl (fun c238 => absurd c238 (by decide)) (fun c238 => ?_)
        refine q_iload_n rfl rfl rfl ?_
        refine q_ifeq rfl rfl (fun c239 => absurd c239 (by decide)) (fun c239 => ?_)
        refine q_aload_n rfl rfl rfl ?_
        refine q_getf rfl rfl (by decide) rfl rfl ?_
        refine q_iload_n rfl rfl rfl ?_
        refine q_iald rfl rfl (by decide) rfl (by decide) (q_tn (z := 0) rfl ?_)
        refine q_aload_n rfl rfl rfl ?_
        refine q_getf rfl rfl (by decide) rfl rfl ?_
        refine q_iload_n rfl rfl rfl ?_
        refine q_iald rfl rfl (by decide) (FW_54 S hW) (by decide) (q_tn (z := 0) rfl ?_)
        refine q_icne rfl rfl (fun c240 => ?_) (fun c240 => absurd (by decide) c240)
        refine q_iconst rfl rfl ?_
        refine q_goto rfl ?_
        refine q_ist1n rfl rfl rfl rfl ?_
        refine q_icc2 (z := 11) rfl rfl rfl rfl rfl ?_
        refine q_goto rfl ?_
        refine q_iload_n rfl rfl rfl ?_
        refine q_bipush rfl rfl ?_
        refine q_icge rfl rfl (fun c241 => absurd c241 (by decide)) (fun c241 => ?_)
        refine q_iload_n rfl rfl rfl ?_
        refine q_ifeq rfl rfl (fun c242 => absurd c242 (by decide)) (fun c242 => ?_)
        refine q_aload_n rfl rfl rfl ?_
        refine q_getf rfl rfl (by decide) rfl rfl ?_
        refine q_iload_n rfl rfl rfl ?_
        refine q_iald rfl rfl (by decide) rfl (by decide) (q_tn (z := 0) rfl ?_)
        refine q_aload_n rfl rfl rfl ?_
        refine q_getf rfl rfl (by decide) rfl rfl ?_
        refine q_iload_n rfl rfl rfl ?_
        refine q_iald rfl rfl (by decide) (FW_54 S hW) (by decide) (q_tn (z := 0) rfl ?_)
        refine q_icne rfl rfl (fun c243 => ?_) (fun c243 => absurd (by decide) c243)
        refine q_iconst rfl rfl ?_
        refine q_goto rfl ?_
        refine q_ist1n rfl rfl rfl rfl ?_
        refine q_icc2 (z := 12) rfl rfl rfl rfl rfl ?_
        refine q_goto rfl ?_
        refine q_iload_n rfl rfl rfl ?_
        refine q_bipush rfl rfl ?_
        refine q_icge rfl rfl (fun c244 => absurd c244 (by decide)) (fun c244 => ?_)
        refine q_iload_n rfl rfl rfl ?_
        refine q_ifeq rfl rfl (fun c245 => absurd c245 (by decide)) (fun c245 => ?_)
        refine q_aload_n rfl rfl rfl ?_
        refine q_getf rfl rfl (by decide) rfl rfl ?_
        refine q_iload_n rfl rfl rfl ?_
        refine q_iald rfl rfl (by decide) rfl (by decide) (q_tn (z := 0) rfl ?_)
        refine q_aload_n rfl rfl rfl ?_
        refine q_getf rfl rfl (by decide) rfl rfl ?_
        refine q_iload_n rfl rfl rfl ?_
        refine q_iald rfl rfl (by decide) (FW_54 S hW) (by decide) (q_tn (z := 0) rfl ?_)
        refine q_icne rfl rfl (fun c246 => ?_) (fun c246 => absurd (by decide) c246)
        refine q_iconst rfl rfl ?_
        refine q_goto rfl ?_
        refine q_ist1n rfl rfl rfl rfl ?_
        refine q_icc2 (z := 13) rfl rfl rfl rfl rfl ?_
        refine q_goto rfl ?_
        refine q_iload_n rfl rfl rfl ?_
        refine q_bipush rfl rfl ?_
        refine q_icge rfl rfl (fun c247 => absurd c247 (by decide)) (fun c247 => ?_)
        refine q_iload_n rfl rfl rfl ?_
        refine q_ifeq rfl rfl (fun c248 => absurd c248 (by decide)) (fun c248 => ?_)
        refine q_aload_n rfl rfl rfl ?_
        refine q_getf rfl rfl (by decide) rfl rfl ?_
        refine q_iload_n rfl rfl rfl ?_
        refine q_iald rfl rfl (by decide) rfl (by decide) (q_tn (z := 0) rfl ?_)
        refine q_aload_n rfl rfl rfl ?_
        refine q_getf rfl rfl (by decide) rfl rfl ?_
        refine q_iload_n rfl rfl rfl ?_
        refine q_iald rfl rfl (by decide) (FW_54 S hW) (by decide) (q_tn (z := 0) rfl ?_)
        refine q_icne rfl rfl (fun c249 => ?_) (fun c249 => absurd (by decide) c249)
        refine q_iconst rfl rfl ?_
        refine q_goto rfl ?_
        refine q_ist1n rfl rfl rfl rfl ?_
        refine q_icc2 (z := 14) rfl rfl rfl rfl rfl ?_
        refine q_goto rfl ?_
        refine q_iload_n rfl rfl rfl ?_
        refine q_bipush rfl rfl ?_
        refine q_icge rfl rfl (fun c250 => absurd c250 (by decide)) (fun c250 => ?_)
        refine q_iload_n rfl rfl rfl ?_
        refine q_ifeq rfl rfl (fun c251 => absurd c251 (by decide)) (fun c251 => ?_)
        refine q_aload_n rfl rfl rfl ?_
        refine q_getf rfl rfl (by decide) rfl rfl ?_
        refine q_iload_n rfl rfl rfl ?_
        refine q_iald rfl rfl (by decide) rfl (by decide) (q_tn (z := 0) rfl ?_)
        refine q_aload_n rfl rfl rfl ?_
        refine q_getf rfl rfl (by decide) rfl rfl ?_
        refine q_iload_n rfl rfl rfl ?_
        refine q_iald rfl rfl (by decide) (FW_54 S hW) (by decide) (q_tn (z := 0) rfl ?_)
        refine q_icne rfl rfl (fun c252 => ?_) (fun c252 => absurd (by decide) c252)
        refine q_iconst rfl rfl ?_
        refine q_goto rfl ?_
        refine q_ist1n rfl rfl rfl rfl ?_
        refine q_icc2 (z := 15) rfl rfl rfl rfl rfl ?_
        refine q_goto rfl ?_
        refine q_iload_n rfl rfl rfl ?_
        refine q_bipush rfl rfl ?_
        refine q_icge rfl rfl (fun c253 => absurd c253 (by decide)) (fun c253 => ?_)
        refine q_iload_n rfl rfl rfl ?_
        refine q_ifeq rfl rfl (fun c254 => absurd c254 (by decide)) (fun c254 => ?_)
        refine q_aload_n rfl rfl rfl ?_
        refine q_getf rfl rfl (by decide) rfl rfl ?_
        refine q_iload_n rfl rfl rfl ?_
        refine q_iald rfl rfl (by decide) rfl (by decide) (q_tn (z := 0) rfl ?_)
        refine q_aload_n rfl rfl rfl ?_
        refine q_getf rfl rfl (by decide) rfl rfl ?_
        refine q_iload_n rfl rfl rfl ?_
        refine q_iald rfl rfl (by decide) (FW_54 S hW) (by decide) (q_tn (z := 0) rfl ?_)
        refine q_icne rfl rfl (fun c255 => ?_) (fun c255 => absurd (by decide) c255)
        refine q_iconst rfl rfl ?_
        refine q_goto rfl ?_
        refine q_ist1n rfl rfl rfl rfl ?_
        refine q_icc2 (z := 16) rfl rfl rfl rfl rfl ?_
        refine q_goto rfl ?_
        refine q_iload_n rfl rfl rfl ?_
        refine q_bipush rfl rfl ?_
        refine q_icge rfl rfl (fun c256 => absurd c256 (by decide)) (fun c256 => ?_)
        refine q_iload_n rfl rfl rfl ?_
        refine q_ifeq rfl rfl (fun c257 => absurd c257 (by decide)) (fun c257 => ?_)
        refine q_aload_n rfl rfl rfl ?_
        refine q_getf rfl rfl (by decide) rfl rfl ?_
        refine q_iload_n rfl rfl rfl ?_
        refine q_iald rfl rfl (by decide) rfl (by decide) (q_tn (z := 0) rfl ?_)
        refine q_aload_n rfl rfl rfl ?_
        refine q_getf rfl rfl (by decide) rfl rfl ?_
        refine q_iload_n rfl rfl rfl ?_
        refine q_iald rfl rfl (by decide) (FW_54 S hW) (by decide) (q_tn (z := 0) rfl ?_)
        refine q_icne rfl rfl (fun c258 => ?_) (fun c258 => absurd (by decide) c258)
        refine q_iconst rfl rfl ?_
        refine q_goto rfl ?_
        refine q_ist1n rfl rfl rfl rfl ?_
        refine q_icc2 (z := 17) rfl rfl rfl rfl rfl ?_
        refine q_goto rfl ?_
        refine q_iload_n rfl rfl rfl ?_
        refine q_bipush rfl rfl ?_
        refine q_icge rfl rfl (fun c259 => absurd c259 (by decide)) (fun c259 => ?_)
        refine q_iload_n rfl rfl rfl ?_
        refine q_ifeq rfl rfl (fun c260 => absurd c260 (by decide)) (fun c260 => ?_)
        refine q_aload_n rfl rfl rfl ?_
        refine q_getf rfl rfl (by decide) rfl rfl ?_
        refine q_iload_n rfl rfl rfl ?_
        refine q_iald rfl rfl (by decide) rfl (by decide) (q_tn (z := 0) rfl ?_)
        refine q_aload_n rfl rfl rfl ?_
        refine q_getf rfl rfl (by decide) rfl rfl ?_
        refine q_iload_n rfl rfl rfl ?_
        refine q_iald rfl rfl (by decide) (FW_54 S hW) (by decide) (q_tn (z := 0) rfl ?_)
        refine q_icne rfl rfl (fun c261 => ?_) (fun c261 => absurd (by decide) c261)
        refine q_iconst rfl rfl ?_
        refine q_goto rfl ?_
        refine q_ist1n rfl rfl rfl rfl ?_
        refine q_icc2 (z := 18) rfl rfl rfl rfl rfl ?_
        refine q_goto rfl ?_
        refine q_iload_n rfl rfl rfl ?_
        refine q_bipush rfl rfl ?_
        refine q_icge rfl rfl (fun c262 => absurd c262 (by decide)) (fun c262 => ?_)
        refine q_iload_n rfl rfl rfl ?_
        refine q_ifeq rfl rfl (fun c263 => absurd c263 (by decide)) (fun c263 => ?_)
        refine q_aload_n rfl rfl rfl ?_
        refine q_getf rfl rfl (by decide) rfl rfl ?_
        refine q_iload_n rfl rfl rfl ?_
        refine q_iald rfl rfl (by decide) rfl (by decide) (q_tn (z := 0) rfl ?_)
        refine q_aload_n rfl rfl rfl ?_
        refine q_getf rfl rfl (by decide) rfl rfl ?_
        refine q_iload_n rfl rfl rfl ?_
        refine q_iald rfl rfl (by decide) (FW_54 S hW) (by decide) (q_tn (z := 0) rfl ?_)
        refine q_icne rfl rfl (fun c264 => ?_) (fun c264 => absurd (by decide) c264)
        refine q_iconst rfl rfl ?_
        refine q_goto rfl ?_
        refine q_ist1n rfl rfl rfl rfl ?_
        refine q_icc2 (z := 19) rfl rfl rfl rfl rfl ?_
        refine q_goto rfl ?_
        refine q_iload_n rfl rfl rfl ?_
        refine q_bipush rfl rfl ?_
        refine q_icge rfl rfl (fun c265 => absurd c265 (by decide)) (fun c265 => ?_)
        refine q_iload_n rfl rfl rfl ?_
        refine q_ifeq rfl rfl (fun c266 => absurd c266 (by decide)) (fun c266 => ?_)
        refine q_aload_n rfl rfl rfl ?_
        refine q_getf rfl rfl (by decide) rfl rfl ?_
        refine q_iload_n rfl rfl rfl ?_
        refine q_iald rfl rfl (by decide) rfl (by decide) (q_tn (z := 0) rfl ?_)
        refine q_aload_n rfl rfl rfl ?_
        refine q_getf rfl rfl (by decide) rfl rfl ?_
        refine q_iload_n rfl rfl rfl ?_
        refine q_iald rfl rfl (by decide) (FW_54 S hW) (by decide) (q_tn (z := 0) rfl ?_)
        refine q_icne rfl rfl (fun c267 => ?_) (fun c267 => absurd (by decide) c267)
        refine q_iconst rfl rfl ?_
        refine q_goto rfl ?_
        refine q_ist1n rfl rfl rfl rfl ?_
        refine q_icc2 (z := 20) rfl rfl rfl rfl rfl ?_
        refine q_goto rfl ?_
        refine q_iload_n rfl rfl rfl ?_
        refine q_bipush rfl rfl ?_
        refine q_icge rfl rfl (fun c268 => ?_) (fun c268 => absurd (by decide) c268)
        refine q_iload_n rfl rfl rfl ?_
        refine q_iret rfl rfl rfl ?_
        refine ⟨_, rfl, ?_⟩
        refine q_ifeq rfl rfl (fun c269 => absurd c269 (by decide)) (fun c269 => ?_)
        refine q_iconst rfl rfl ?_
        refine q_iret rfl rfl trivial ?_
        refine ⟨_, rfl, ?_⟩
        refine q_iret rfl rfl trivial ?_
        refine ⟨_, rfl, ?_⟩
        refine q_iceq rfl rfl (fun c270 => ?_) (fun c270 => absurd (by decide) c270)
        refine q_icc4 (z := 6) rfl rfl rfl rfl rfl ?_
        refine q_goto rfl ?_
        refine q_iload rfl rfl rfl ?_
        refine q_aload_nF rfl rfl rfl ?_
        refine q_alenX (x := 6) rfl rfl rfl ?_
        refine q_bipush rfl rfl ?_
        refine q_isub rfl rfl (q_tn (z := 0) rfl ?_)
        refine q_icgt rfl rfl (fun c271 => ?_) (fun c271 => absurd (by decide) c271)
        refine q_iconst rfl rfl ?_
        refine q_iret rfl rfl rfl ?_
        exact hK _ _
    · refine q_iconst rfl rfl ?_
      refine q_goto rfl ?_
      refine q_iret rfl rfl trivial ?_
      refine ⟨_, rfl, ?_⟩
      refine q_ist2n rfl rfl rfl rfl ?_
      refine q_iload_n rfl rfl rfl ?_
      refine q_ifeq rfl rfl (fun c272 => absurd c272 (by decide)) (fun c272 => ?_)
      refine q_iload_n rfl rfl rfl ?_
      refine q_goto rfl ?_
      refine q_iret rfl rfl trivial ?_
      refine ⟨_, rfl, ?_⟩
      refine q_aload_n rfl rfl rfl ?_
      refine q_aload_nF rfl rfl rfl ?_
      refine q_iload rfl rfl rfl ?_
      refine q_iconst rfl rfl ?_
      refine q_iadd rfl rfl (q_tn (z := 1) rfl ?_)
      refine q_ialdX (x := x1) rfl rfl rfl hx1 ?_
      refine q_nV1 rfl rfl (Or.inl rfl) rfl rfl rfl (by decide) (FW_46 S hW) ⟨rfl, rfl⟩ rfl ?_
      change PQ _ _ _ mm_X12_lead 0 [.ref 46, .int x1] [] _ _ 0 0 _
      refine q_aload_n rfl rfl rfl ?_
      refine q_iload_n rfl rfl rfl ?_
      refine q_nV1 rfl rfl (Or.inl rfl) rfl rfl rfl (by decide) (FW_46 S hW) ⟨rfl, rfl⟩ rfl ?_
      change PQ _ _ _ mm_X12_lacks 0 [.ref 46, .int x1] [] _ _ 0 0 _
      refine q_iload_n rfl rfl rfl ?_
      refine q_ifge rfl rfl (fun c273 => ?_) (fun c273 => absurd (i_ge_t (i_nlt c68) rfl) c273)
      refine q_aload_n rfl rfl rfl ?_
      refine q_iconst rfl rfl ?_
      refine q_nV1 rfl rfl (Or.inl rfl) rfl rfl rfl (by decide) (FW_46 S hW) ⟨rfl, rfl⟩ rfl ?_
      change PQ _ _ _ mm_X12_isSpent 0 [.ref 46, .int 0, pm_un, pm_un, pm_un] [] _ _ 0 0 _
      refine q_iload_n rfl rfl rfl ?_
      refine q_ifne rfl rfl (fun c274 => ?_) (fun c274 => absurd (by decide) c274)
      refine q_iconst rfl rfl ?_
      refine q_goto rfl ?_
      refine q_ist2n rfl rfl rfl rfl ?_
      refine q_aload_n rfl rfl rfl ?_
      refine q_iconst rfl rfl ?_
      refine q_putf rfl rfl (by decide) (FW_46 S hW) (by decide) rfl trivial ?_
      refine q_aload_n rfl rfl rfl ?_
      refine q_getf rfl rfl (by decide) rfl rfl ?_
      refine q_iload_n rfl rfl rfl ?_
      refine q_iald rfl rfl (by decide) (FW_62 S hW) (by decide) (q_tn (z := 0) rfl ?_)
      refine q_ifeq rfl rfl (fun c275 => ?_) (fun c275 => absurd (by decide) c275)
      refine q_aload_n rfl rfl rfl ?_
      refine q_getf rfl rfl (by decide) rfl rfl ?_
      refine q_iload_n rfl rfl rfl ?_
      refine q_aload_n rfl rfl rfl ?_
      refine q_iload_n rfl rfl rfl ?_
      refine q_iload_n rfl rfl rfl ?_
      refine q_nV2 rfl rfl (Or.inl rfl) rfl rfl rfl (by decide) rfl ⟨rfl, rfl⟩ rfl ?_
      change PQ _ _ _ mm_X12_explore 0 [.ref 46, .int 0, .int 0, pm_un, pm_un, pm_un, pm_un, pm_un] [] _ _ 0 0 _
      refine q_iconst rfl rfl ?_
      refine q_ist3n rfl rfl rfl rfl ?_
      refine l_net (R := 0) (by decide) rfl (by decide) rfl rfl (FW_61 S hW) ?_
      refine q_aload_n rfl rfl rfl ?_
      refine q_getf rfl rfl (by decide) rfl rfl ?_
      refine q_iload_n rfl rfl rfl ?_
      refine q_iconst rfl rfl ?_
      refine q_iast rfl rfl (by decide) (FW_60 S hW) (by decide) ?_
      refine q_aload_n rfl rfl rfl ?_
      refine q_nV0v rfl rfl (Or.inl rfl) rfl rfl rfl (by decide) rfl ⟨rfl, rfl⟩ rfl ?_
      change PQ _ _ _ mm_X12_firstState 0 [.ref 46, pm_un] [] _ _ 0 0 _
      refine q_iconst rfl rfl ?_
      refine q_ist1n rfl rfl rfl rfl ?_
      refine q_iload_n rfl rfl rfl ?_
      refine q_bipush rfl rfl ?_
      refine q_icge rfl rfl (fun c276 => absurd c276 (by decide)) (fun c276 => ?_)
      refine q_aload_n rfl rfl rfl ?_
      refine q_getf rfl rfl (by decide) rfl rfl ?_
      refine q_iload_n rfl rfl rfl ?_
      refine q_iconst rfl rfl ?_
      refine q_iast rfl rfl (by decide) (FW_52 S hW) (by decide) ?_
      refine q_icc1 (z := 1) rfl rfl rfl rfl rfl ?_
      refine q_goto rfl ?_
      refine q_iload_n rfl rfl rfl ?_
      refine q_bipush rfl rfl ?_
      refine q_icge rfl rfl (fun c277 => absurd c277 (by decide)) (fun c277 => ?_)
      refine q_aload_n rfl rfl rfl ?_
      refine q_getf rfl rfl (by decide) rfl rfl ?_
      refine q_iload_n rfl rfl rfl ?_
      refine q_iconst rfl rfl ?_
      refine q_iast rfl rfl (by decide) rfl (by decide) ?_
      refine q_icc1 (z := 2) rfl rfl rfl rfl rfl ?_
      refine q_goto rfl ?_
      refine q_iload_n rfl rfl rfl ?_
      refine q_bipush rfl rfl ?_
      refine q_icge rfl rfl (fun c278 => absurd c278 (by decide)) (fun c278 => ?_)
      refine q_aload_n rfl rfl rfl ?_
      refine q_getf rfl rfl (by decide) rfl rfl ?_
      refine q_iload_n rfl rfl rfl ?_
      refine q_iconst rfl rfl ?_
      refine q_iast rfl rfl (by decide) rfl (by decide) ?_
      refine q_icc1 (z := 3) rfl rfl rfl rfl rfl ?_
      refine q_goto rfl ?_
      refine q_iload_n rfl rfl rfl ?_
      refine q_bipush rfl rfl ?_
      refine q_icge rfl rfl (fun c279 => absurd c279 (by decide)) (fun c279 => ?_)
      refine q_aload_n rfl rfl rfl ?_
      refine q_getf rfl rfl (by decide) rfl rfl ?_
      refine q_iload_n rfl rfl rfl ?_
      refine q_iconst rfl rfl ?_
      refine q_iast rfl rfl (by decide) rfl (by decide) ?_
      refine q_icc1 (z := 4) rfl rfl rfl rfl rfl ?_
      refine q_goto rfl ?_
      refine q_iload_n rfl rfl rfl ?_
      refine q_bipush rfl rfl ?_
      refine q_icge rfl rfl (fun c280 => absurd c280 (by decide)) (fun c280 => ?_)
      refine q_aload_n rfl rfl rfl ?_
      refine q_getf rfl rfl (by decide) rfl rfl ?_
      refine q_iload_n rfl rfl rfl ?_
      refine q_iconst rfl rfl ?_
      refine q_iast rfl rfl (by decide) rfl (by decide) ?_
      refine q_icc1 (z := 5) rfl rfl rfl rfl rfl ?_
      refine q_goto rfl ?_
      refine q_iload_n rfl rfl rfl ?_
      refine q_bipush rfl rfl ?_
      refine q_icge rfl rfl (fun c281 => absurd c281 (by decide)) (fun c281 => ?_)
      refine q_aload_n rfl rfl rfl ?_
      refine q_getf rfl rfl (by decide) rfl rfl ?_
      refine q_iload_n rfl rfl rfl ?_
      refine q_iconst rfl rfl ?_
      refine q_iast rfl rfl (by decide) rfl (by decide) ?_
      refine q_icc1 (z := 6) rfl rfl rfl rfl rfl ?_
      refine q_goto rfl ?_
      refine q_iload_n rfl rfl rfl ?_
      refine q_bipush rfl rfl ?_
      refine q_icge rfl rfl (fun c282 => absurd c282 (by decide)) (fun c282 => ?_)
      refine q_aload_n rfl rfl rfl ?_
      refine q_getf rfl rfl (by decide) rfl rfl ?_
      refine q_iload_n rfl rfl rfl ?_
      refine q_iconst rfl rfl ?_
      refine q_iast rfl rfl (by decide) rfl (by decide) ?_
      refine q_icc1 (z := 7) rfl rfl rfl rfl rfl ?_
      refine q_goto rfl ?_
      refine q_iload_n rfl rfl rfl ?_
      refine q_bipush rfl rfl ?_
      refine q_icge rfl rfl (fun c283 => absurd c283 (by decide)) (fun c283 => ?_)
      refine q_aload_n rfl rfl rfl ?_
      refine q_getf rfl rfl (by decide) rfl rfl ?_
      refine q_iload_n rfl rfl rfl ?_
      refine q_iconst rfl rfl ?_
      refine q_iast rfl rfl (by decide) rfl (by decide) ?_
      refine q_icc1 (z := 8) rfl rfl rfl rfl rfl ?_
      refine q_goto rfl ?_
      refine q_iload_n rfl rfl rfl ?_
      refine q_bipush rfl rfl ?_
      refine q_icge rfl rfl (fun c284 => absurd c284 (by decide)) (fun c284 => ?_)
      refine q_aload_n rfl rfl rfl ?_
      refine q_getf rfl rfl (by decide) rfl rfl ?_
      refine q_iload_n rfl rfl rfl ?_
      refine q_iconst rfl rfl ?_
      refine q_iast rfl rfl (by decide) rfl (by decide) ?_
      refine q_icc1 (z := 9) rfl rfl rfl rfl rfl ?_
      refine q_goto rfl ?_
      refine q_iload_n rfl rfl rfl ?_
      refine q_bipush rfl rfl ?_
      refine q_icge rfl rfl (fun c285 => absurd c285 (by decide)) (fun c285 => ?_)
      refine q_aload_n rfl rfl rfl ?_
      refine q_getf rfl rfl (by decide) rfl rfl ?_
      refine q_iload_n rfl rfl rfl ?_
      refine q_iconst rfl rfl ?_
      refine q_iast rfl rfl (by decide) rfl (by decide) ?_
      refine q_icc1 (z := 10) rfl rfl rfl rfl rfl ?_
      refine q_goto rfl ?_
      refine q_iload_n rfl rfl rfl ?_
      refine q_bipush rfl rfl ?_
      refine q_icge rfl rfl (fun c286 => absurd c286 (by decide)) (fun c286 => ?_)
      refine q_aload_n rfl rfl rfl ?_
      refine q_getf rfl rfl (by decide) rfl rfl ?_
      refine q_iload_n rfl rfl rfl ?_
      refine q_iconst rfl rfl ?_
      refine q_iast rfl rfl (by decide) rfl (by decide) ?_
      refine q_icc1 (z := 11) rfl rfl rfl rfl rfl ?_
      refine q_goto rfl ?_
      refine q_iload_n rfl rfl rfl ?_
      refine q_bipush rfl rfl ?_
      refine q_icge rfl rfl (fun c287 => absurd c287 (by decide)) (fun c287 => ?_)
      refine q_aload_n rfl rfl rfl ?_
      refine q_getf rfl rfl (by decide) rfl rfl ?_
      refine q_iload_n rfl rfl rfl ?_
      refine q_iconst rfl rfl ?_
      refine q_iast rfl rfl (by decide) rfl (by decide) ?_
      refine q_icc1 (z := 12) rfl rfl rfl rfl rfl ?_
      refine q_goto rfl ?_
      refine q_iload_n rfl rfl rfl ?_
      refine q_bipush rfl rfl ?_
      refine q_icge rfl rfl (fun c288 => absurd c288 (by decide)) (fun c288 => ?_)
      refine q_aload_n rfl rfl rfl ?_
      refine q_getf rfl rfl (by decide) rfl rfl ?_
      refine q_iload_n rfl rfl rfl ?_
      refine q_iconst rfl rfl ?_
      refine q_iast rfl rfl (by decide) rfl (by decide) ?_
      refine q_icc1 (z := 13) rfl rfl rfl rfl rfl ?_
      refine q_goto rfl ?_
      refine q_iload_n rfl rfl rfl ?_
      refine q_bipush rfl rfl ?_
      refine q_icge rfl rfl (fun c289 => absurd c289 (by decide)) (fun c289 => ?_)
      refine q_aload_n rfl rfl rfl ?_
      refine q_getf rfl rfl (by decide) rfl rfl ?_
      refine q_iload_n rfl rfl rfl ?_
      refine q_iconst rfl rfl ?_
      refine q_iast rfl rfl (by decide) rfl (by decide) ?_
      refine q_icc1 (z := 14) rfl rfl rfl rfl rfl ?_
      refine q_goto rfl ?_
      refine q_iload_n rfl rfl rfl ?_
      refine q_bipush rfl rfl ?_
      refine q_icge rfl rfl (fun c290 => absurd c290 (by decide)) (fun c290 => ?_)
      refine q_aload_n rfl rfl rfl ?_
      refine q_getf rfl rfl (by decide) rfl rfl ?_
      refine q_iload_n rfl rfl rfl ?_
      refine q_iconst rfl rfl ?_
      refine q_iast rfl rfl (by decide) rfl (by decide) ?_
      refine q_icc1 (z := 15) rfl rfl rfl rfl rfl ?_
      refine q_goto rfl ?_
      refine q_iload_n rfl rfl rfl ?_
      refine q_bipush rfl rfl ?_
      refine q_icge rfl rfl (fun c291 => absurd c291 (by decide)) (fun c291 => ?_)
      refine q_aload_n rfl rfl rfl ?_
      refine q_getf rfl rfl (by decide) rfl rfl ?_
      refine q_iload_n rfl rfl rfl ?_
      refine q_iconst rfl rfl ?_
      refine q_iast rfl rfl (by decide) rfl (by decide) ?_
      refine q_icc1 (z := 16) rfl rfl rfl rfl rfl ?_
      refine q_goto rfl ?_
      refine q_iload_n rfl rfl rfl ?_
      refine q_bipush rfl rfl ?_
      refine q_icge rfl rfl (fun c292 => absurd c292 (by decide)) (fun c292 => ?_)
      refine q_aload_n rfl rfl rfl ?_
      refine q_getf rfl rfl (by decide) rfl rfl ?_
      refine q_iload_n rfl rfl rfl ?_
      refine q_iconst rfl rfl ?_
      refine q_iast rfl rfl (by decide) rfl (by decide) ?_
      refine q_icc1 (z := 17) rfl rfl rfl rfl rfl ?_
      refine q_goto rfl ?_
      refine q_iload_n rfl rfl rfl ?_
      refine q_bipush rfl rfl ?_
      refine q_icge rfl rfl (fun c293 => absurd c293 (by decide)) (fun c293 => ?_)
      refine q_aload_n rfl rfl rfl ?_
      refine q_getf rfl rfl (by decide) rfl rfl ?_
      refine q_iload_n rfl rfl rfl ?_
      refine q_iconst rfl rfl ?_
      refine q_iast rfl rfl (by decide) rfl (by decide) ?_
      refine q_icc1 (z := 18) rfl rfl rfl rfl rfl ?_
      refine q_goto rfl ?_
      refine q_iload_n rfl rfl rfl ?_
      refine q_bipush rfl rfl ?_
      refine q_icge rfl rfl (fun c294 => absurd c294 (by decide)) (fun c294 => ?_)
      refine q_aload_n rfl rfl rfl ?_
      refine q_getf rfl rfl (by decide) rfl rfl ?_
      refine q_iload_n rfl rfl rfl ?_
      refine q_iconst rfl rfl ?_
      refine q_iast rfl rfl (by decide) rfl (by decide) ?_
      refine q_icc1 (z := 19) rfl rfl rfl rfl rfl ?_
      refine q_goto rfl ?_
      refine q_iload_n rfl rfl rfl ?_
      refine q_bipush rfl rfl ?_
      refine q_icge rfl rfl (fun c295 => absurd c295 (by decide)) (fun c295 => ?_)
      refine q_aload_n rfl rfl rfl ?_
      refine q_getf rfl rfl (by decide) rfl rfl ?_
      refine q_iload_n rfl rfl rfl ?_
      refine q_iconst rfl rfl ?_
      refine q_iast rfl rfl (by decide) rfl (by decide) ?_
      refine q_icc1 (z := 20) rfl rfl rfl rfl rfl ?_
      refine q_goto rfl ?_
      refine q_iload_n rfl rfl rfl ?_
      refine q_bipush rfl rfl ?_
      refine q_icge rfl rfl (fun c296 => ?_) (fun c296 => absurd (by decide) c296)
      refine q_iconst rfl rfl ?_
      refine q_ist1n rfl rfl rfl rfl ?_
      refine q_iload_n rfl rfl rfl ?_
      refine q_aload_n rfl rfl rfl ?_
      refine q_getf rfl rfl (by decide) rfl rfl ?_
      refine q_icge rfl rfl (fun c297 => absurd c297 (by decide)) (fun c297 => ?_)
      refine q_aload_n rfl rfl rfl ?_
      refine q_getf rfl rfl (by decide) rfl rfl ?_
      refine q_iconst rfl rfl ?_
      refine q_iload_n rfl rfl rfl ?_
      refine q_imul rfl rfl (q_tn (z := 0) rfl ?_)
      refine q_aload_n rfl rfl rfl ?_
      refine q_getf rfl rfl (by decide) rfl rfl ?_
      refine q_aload_n rfl rfl rfl ?_
      refine q_getf rfl rfl (by decide) rfl rfl ?_
      refine q_iload_n rfl rfl rfl ?_
      refine q_iadd rfl rfl (q_tn (z := 0) rfl ?_)
      refine q_iald rfl rfl (by decide) (FW_47 S hW) (by decide) (q_tn (z := 0) rfl ?_)
      refine q_ifne rfl rfl (fun c298 => ?_) (fun c298 => absurd (by decide) c298)
      refine q_bipush rfl rfl ?_
      refine q_goto rfl ?_
      refine q_iast rfl rfl (by decide) rfl (by decide) ?_
      refine q_icc1 (z := 1) rfl rfl rfl rfl rfl ?_
      refine q_goto rfl ?_
      refine q_iload_n rfl rfl rfl ?_
      refine q_aload_n rfl rfl rfl ?_
      refine q_getf rfl rfl (by decide) rfl rfl ?_
      refine q_icge rfl rfl (fun c299 => ?_) (fun c299 => absurd (by decide) c299)
      refine q_iconst rfl rfl ?_
      refine q_ist1n rfl rfl rfl rfl ?_
      refine q_iload_n rfl rfl rfl ?_
      refine q_iconst rfl rfl ?_
      refine q_icge rfl rfl (fun c300 => absurd c300 (by decide)) (fun c300 => ?_)
      refine q_aload_n rfl rfl rfl ?_
      refine q_getf rfl rfl (by decide) rfl rfl ?_
      refine q_bipush rfl rfl ?_
      refine q_iload_n rfl rfl rfl ?_
      refine q_iadd rfl rfl (q_tn (z := 12) rfl ?_)
      refine q_aload_n rfl rfl rfl ?_
      refine q_getf rfl rfl (by decide) rfl rfl ?_
      refine q_iload_n rfl rfl rfl ?_
      refine q_iald rfl rfl (by decide) (FW_51 S hW) (by decide) (q_tn (z := 0) rfl ?_)
      refine q_iast rfl rfl (by decide) rfl (by decide) ?_
      refine q_icc1 (z := 1) rfl rfl rfl rfl rfl ?_
      refine q_goto rfl ?_
      refine q_iload_n rfl rfl rfl ?_
      refine q_iconst rfl rfl ?_
      refine q_icge rfl rfl (fun c301 => absurd c301 (by decide)) (fun c301 => ?_)
      refine q_aload_n rfl rfl rfl ?_
      refine q_getf rfl rfl (by decide) rfl rfl ?_
      refine q_bipush rfl rfl ?_
      refine q_iload_n rfl rfl rfl ?_
      refine q_iadd rfl rfl (q_tn (z := 13) rfl ?_)
      refine q_aload_n rfl rfl rfl ?_
      refine q_getf rfl rfl (by decide) rfl rfl ?_
      refine q_iload_n rfl rfl rfl ?_
      refine q_iald rfl rfl (by decide) (FW_51 S hW) (by decide) (q_tn (z := 0) rfl ?_)
      refine q_iast rfl rfl (by decide) rfl (by decide) ?_
      refine q_icc1 (z := 2) rfl rfl rfl rfl rfl ?_
      refine q_goto rfl ?_
      refine q_iload_n rfl rfl rfl ?_
      refine q_iconst rfl rfl ?_
      refine q_icge rfl rfl (fun c302 => absurd c302 (by decide)) (fun c302 => ?_)
      refine q_aload_n rfl rfl rfl ?_
      refine q_getf rfl rfl (by decide) rfl rfl ?_
      refine q_bipush rfl rfl ?_
      refine q_iload_n rfl rfl rfl ?_
      refine q_iadd rfl rfl (q_tn (z := 14) rfl ?_)
      refine q_aload_n rfl rfl rfl ?_
      refine q_getf rfl rfl (by decide) rfl rfl ?_
      refine q_iload_n rfl rfl rfl ?_
      refine q_iald rfl rfl (by decide) (FW_51 S hW) (by decide) (q_tn (z := 0) rfl ?_)
      refine q_iast rfl rfl (by decide) rfl (by decide) ?_
      refine q_icc1 (z := 3) rfl rfl rfl rfl rfl ?_
      refine q_goto rfl ?_
      refine q_iload_n rfl rfl rfl ?_
      refine q_iconst rfl rfl ?_
      refine q_icge rfl rfl (fun c303 => absurd c303 (by decide)) (fun c303 => ?_)
      refine q_aload_n rfl rfl rfl ?_
      refine q_getf rfl rfl (by decide) rfl rfl ?_
      refine q_bipush rfl rfl ?_
      refine q_iload_n rfl rfl rfl ?_
      refine q_iadd rfl rfl (q_tn (z := 15) rfl ?_)
      refine q_aload_n rfl rfl rfl ?_
      refine q_getf rfl rfl (by decide) rfl rfl ?_
      refine q_iload_n rfl rfl rfl ?_
      refine q_iald rfl rfl (by decide) (FW_51 S hW) (by decide) (q_tn (z := 0) rfl ?_)
      refine q_iast rfl rfl (by decide) rfl (by decide) ?_
      refine q_icc1 (z := 4) rfl rfl rfl rfl rfl ?_
      refine q_goto rfl ?_
      refine q_iload_n rfl rfl rfl ?_
      refine q_iconst rfl rfl ?_
      refine q_icge rfl rfl (fun c304 => ?_) (fun c304 => absurd (by decide) c304)
      refine q_ret rfl rfl ?_
      refine ⟨rfl, ?_⟩
      refine q_iconst rfl rfl ?_
      refine q_ist3n rfl rfl rfl rfl ?_
      refine q_iload_n rfl rfl rfl ?_
      refine q_bipush rfl rfl ?_
      refine q_icge rfl rfl (fun c305 => absurd c305 (by decide)) (fun c305 => ?_)
      refine q_aload_n rfl rfl rfl ?_
      refine q_getf rfl rfl (by decide) rfl rfl ?_
      refine q_iload_n rfl rfl rfl ?_
      refine q_aload_n rfl rfl rfl ?_
      refine q_getf rfl rfl (by decide) rfl rfl ?_
      refine q_iload_n rfl rfl rfl ?_
      refine q_iald rfl rfl (by decide) rfl (by decide) (q_tn (z := 10) rfl ?_)
      refine q_iast rfl rfl (by decide) (FW_53 S hW) (by decide) ?_
      refine q_icc3 (z := 1) rfl rfl rfl rfl rfl ?_
      refine q_goto rfl ?_
      refine q_iload_n rfl rfl rfl ?_
      refine q_bipush rfl rfl ?_
      refine q_icge rfl rfl (fun c306 => absurd c306 (by decide)) (fun c306 => ?_)
      refine q_aload_n rfl rfl rfl ?_
      refine q_getf rfl rfl (by decide) rfl rfl ?_
      refine q_iload_n rfl rfl rfl ?_
      refine q_aload_n rfl rfl rfl ?_
      refine q_getf rfl rfl (by decide) rfl rfl ?_
      refine q_iload_n rfl rfl rfl ?_
      refine q_iald rfl rfl (by decide) rfl (by decide) (q_tn (z := 0) rfl ?_)
      refine q_iast rfl rfl (by decide) rfl (by decide) ?_
      refine q_icc3 (z := 2) rfl rfl rfl rfl rfl ?_
      refine q_goto rfl ?_
      refine q_iload_n rfl rfl rfl ?_
      refine q_bipush rfl rfl ?_
      refine q_icge rfl rfl (fun c307 => absurd c307 (by decide)) (fun c307 => ?_)
      refine q_aload_n rfl rfl rfl ?_
      refine q_getf rfl rfl (by decide) rfl rfl ?_
      refine q_iload_n rfl rfl rfl ?_
      refine q_aload_n rfl rfl rfl ?_
      refine q_getf rfl rfl (by decide) rfl rfl ?_
      refine q_iload_n rfl rfl rfl ?_
      refine q_iald rfl rfl (by decide) rfl (by decide) (q_tn (z := 0) rfl ?_)
      refine q_iast rfl rfl (by decide) rfl (by decide) ?_
      refine q_icc3 (z := 3) rfl rfl rfl rfl rfl ?_
      refine q_goto rfl ?_
      refine q_iload_n rfl rfl rfl ?_
      refine q_bipush rfl rfl ?_
      refine q_icge rfl rfl (fun c308 => absurd c308 (by decide)) (fun c308 => ?_)
      refine q_aload_n rfl rfl rfl ?_
      refine q_getf rfl rfl (by decide) rfl rfl ?_
      refine q_iload_n rfl rfl rfl ?_
      refine q_aload_n rfl rfl rfl ?_
      refine q_getf rfl rfl (by decide) rfl rfl ?_
      refine q_iload_n rfl rfl rfl ?_
      refine q_iald rfl rfl (by decide) rfl (by decide) (q_tn (z := 0) rfl ?_)
      refine q_iast rfl rfl (by decide) rfl (by decide) ?_
      refine q_icc3 (z := 4) rfl rfl rfl rfl rfl ?_
      refine q_goto rfl ?_
      refine q_iload_n rfl rfl rfl ?_
      refine q_bipush rfl rfl ?_
      refine q_icge rfl rfl (fun c309 => absurd c309 (by decide)) (fun c309 => ?_)
      refine q_aload_n rfl rfl rfl ?_
      refine q_getf rfl rfl (by decide) rfl rfl ?_
      refine q_iload_n rfl rfl rfl ?_
      refine q_aload_n rfl rfl rfl ?_
      refine q_getf rfl rfl (by decide) rfl rfl ?_
      refine q_iload_n rfl rfl rfl ?_
      refine q_iald rfl rfl (by decide) rfl (by decide) (q_tn (z := 0) rfl ?_)
      refine q_iast rfl rfl (by decide) rfl (by decide) ?_
      refine q_icc3 (z := 5) rfl rfl rfl rfl rfl ?_
      refine q_goto rfl ?_
      refine q_iload_n rfl rfl rfl ?_
      refine q_bipush rfl rfl ?_
      refine q_icge rfl rfl (fun c310 => absurd c310 (by decide)) (fun c310 => ?_)
      refine q_aload_n rfl rfl rfl ?_
      refine q_getf rfl rfl (by decide) rfl rfl ?_
      refine q_iload_n rfl rfl rfl ?_
      refine q_aload_n rfl rfl rfl ?_
      refine q_getf rfl rfl (by decide) rfl rfl ?_
      refine q_iload_n rfl rfl rfl ?_
      refine q_iald rfl rfl (by decide) rfl (by decide) (q_tn (z := 0) rfl ?_)
      refine q_iast rfl rfl (by decide) rfl (by decide) ?_
      refine q_icc3 (z := 6) rfl rfl rfl rfl rfl ?_
      refine q_goto rfl ?_
      refine q_iload_n rfl rfl rfl ?_
      refine q_bipush rfl rfl ?_
      refine q_icge rfl rfl (fun c311 => absurd c311 (by decide)) (fun c311 => ?_)
      refine q_aload_n rfl rfl rfl ?_
      refine q_getf rfl rfl (by decide) rfl rfl ?_
      refine q_iload_n rfl rfl rfl ?_
      refine q_aload_n rfl rfl rfl ?_
      refine q_getf rfl rfl (by decide) rfl rfl ?_
      refine q_iload_n rfl rfl rfl ?_
      refine q_iald rfl rfl (by decide) rfl (by decide) (q_tn (z := 0) rfl ?_)
      refine q_iast rfl rfl (by decide) rfl (by decide) ?_
      refine q_icc3 (z := 7) rfl rfl rfl rfl rfl ?_
      refine q_goto rfl ?_
      refine q_iload_n rfl rfl rfl ?_
      refine q_bipush rfl rfl ?_
      refine q_icge rfl rfl (fun c312 => absurd c312 (by decide)) (fun c312 => ?_)
      refine q_aload_n rfl rfl rfl ?_
      refine q_getf rfl rfl (by decide) rfl rfl ?_
      refine q_iload_n rfl rfl rfl ?_
      refine q_aload_n rfl rfl rfl ?_
      refine q_getf rfl rfl (by decide) rfl rfl ?_
      refine q_iload_n rfl rfl rfl ?_
      refine q_iald rfl rfl (by decide) rfl (by decide) (q_tn (z := 0) rfl ?_)
      refine q_iast rfl rfl (by decide) rfl (by decide) ?_
      refine q_icc3 (z := 8) rfl rfl rfl rfl rfl ?_
      refine q_goto rfl ?_
      refine q_iload_n rfl rfl rfl ?_
      refine q_bipush rfl rfl ?_
      refine q_icge rfl rfl (fun c313 => absurd c313 (by decide)) (fun c313 => ?_)
      refine q_aload_n rfl rfl rfl ?_
      refine q_getf rfl rfl (by decide) rfl rfl ?_
      refine q_iload_n rfl rfl rfl ?_
      refine q_aload_n rfl rfl rfl ?_
      refine q_getf rfl rfl (by decide) rfl rfl ?_
      refine q_iload_n rfl rfl rfl ?_
      refine q_iald rfl rfl (by decide) rfl (by decide) (q_tn (z := 0) rfl ?_)
      refine q_iast rfl rfl (by decide) rfl (by decide) ?_
      refine q_icc3 (z := 9) rfl rfl rfl rfl rfl ?_
      refine q_goto rfl ?_
      refine q_iload_n rfl rfl rfl ?_
      refine q_bipush rfl rfl ?_
      refine q_icge rfl rfl (fun c314 => absurd c314 (by decide)) (fun c314 => ?_)
      refine q_aload_n rfl rfl rfl ?_
      refine q_getf rfl rfl (by decide) rfl rfl ?_
      refine q_iload_n rfl rfl rfl ?_
      refine q_aload_n rfl rfl rfl ?_
      refine q_getf rfl rfl (by decide) rfl rfl ?_
      refine q_iload_n rfl rfl rfl ?_
      refine q_iald rfl rfl (by decide) rfl (by decide) (q_tn (z := 0) rfl ?_)
      refine q_iast rfl rfl (by decide) rfl (by decide) ?_
      refine q_icc3 (z := 10) rfl rfl rfl rfl rfl ?_
      refine q_goto rfl ?_
      refine q_iload_n rfl rfl rfl ?_
      refine q_bipush rfl rfl ?_
      refine q_icge rfl rfl (fun c315 => absurd c315 (by decide)) (fun c315 => ?_)
      refine q_aload_n rfl rfl rfl ?_
      refine q_getf rfl rfl (by decide) rfl rfl ?_
      refine q_iload_n rfl rfl rfl ?_
      refine q_aload_n rfl rfl rfl ?_
      refine q_getf rfl rfl (by decide) rfl rfl ?_
      refine q_iload_n rfl rfl rfl ?_
      refine q_iald rfl rfl (by decide) rfl (by decide) (q_tn (z := 0) rfl ?_)
      refine q_iast rfl rfl (by decide) rfl (by decide) ?_
      refine q_icc3 (z := 11) rfl rfl rfl rfl rfl ?_
      refine q_goto rfl ?_
      refine q_iload_n rfl rfl rfl ?_
      refine q_bipush rfl rfl ?_
      refine q_icge rfl rfl (fun c316 => absurd c316 (by decide)) (fun c316 => ?_)
      refine q_aload_n rfl rfl rfl ?_
      refine q_getf rfl rfl (by decide) rfl rfl ?_
      refine q_iload_n rfl rfl rfl ?_
      refine q_aload_n rfl rfl rfl ?_
      refine q_getf rfl rfl (by decide) rfl rfl ?_
      refine q_iload_n rfl rfl rfl ?_
      refine q_iald rfl rfl (by decide) rfl (by decide) (q_tn (z := 0) rfl ?_)
      refine q_iast rfl rfl (by decide) rfl (by decide) ?_
      refine q_icc3 (z := 12) rfl rfl rfl rfl rfl ?_
      refine q_goto rfl ?_
      refine q_iload_n rfl rfl rfl ?_
      refine q_bipush rfl rfl ?_
      refine q_icge rfl rfl (fun c317 => absurd c317 (by decide)) (fun c317 => ?_)
      refine q_aload_n rfl rfl rfl ?_
      refine q_getf rfl rfl (by decide) rfl rfl ?_
      refine q_iload_n rfl rfl rfl ?_
      refine q_aload_n rfl rfl rfl ?_
      refine q_getf rfl rfl (by decide) rfl rfl ?_
      refine q_iload_n rfl rfl rfl ?_
      refine q_iald rfl rfl (by decide) rfl (by decide) (q_tn (z := 0) rfl ?_)
      refine q_iast rfl rfl (by decide) rfl (by decide) ?_
      refine q_icc3 (z := 13) rfl rfl rfl rfl rfl ?_
      refine q_goto rfl ?_
      refine q_iload_n rfl rfl rfl ?_
      refine q_bipush rfl rfl ?_
      refine q_icge rfl rfl (fun c318 => absurd c318 (by decide)) (fun c318 => ?_)
      refine q_aload_n rfl rfl rfl ?_
      refine q_getf rfl rfl (by decide) rfl rfl ?_
      refine q_iload_n rfl rfl rfl ?_
      refine q_aload_n rfl rfl rfl ?_
      refine q_getf rfl rfl (by decide) rfl rfl ?_
      refine q_iload_n rfl rfl rfl ?_
      refine q_iald rfl rfl (by decide) rfl (by decide) (q_tn (z := 0) rfl ?_)
      refine q_iast rfl rfl (by decide) rfl (by decide) ?_
      refine q_icc3 (z := 14) rfl rfl rfl rfl rfl ?_
      refine q_goto rfl ?_
      refine q_iload_n rfl rfl rfl ?_
      refine q_bipush rfl rfl ?_
      refine q_icge rfl rfl (fun c319 => absurd c319 (by decide)) (fun c319 => ?_)
      refine q_aload_n rfl rfl rfl ?_
      refine q_getf rfl rfl (by decide) rfl rfl ?_
      refine q_iload_n rfl rfl rfl ?_
      refine q_aload_n rfl rfl rfl ?_
      refine q_getf rfl rfl (by decide) rfl rfl ?_
      refine q_iload_n rfl rfl rfl ?_
      refine q_iald rfl rfl (by decide) rfl (by decide) (q_tn (z := 0) rfl ?_)
      refine q_iast rfl rfl (by decide) rfl (by decide) ?_
      refine q_icc3 (z := 15) rfl rfl rfl rfl rfl ?_
      refine q_goto rfl ?_
      refine q_iload_n rfl rfl rfl ?_
      refine q_bipush rfl rfl ?_
      refine q_icge rfl rfl (fun c320 => absurd c320 (by decide)) (fun c320 => ?_)
      refine q_aload_n rfl rfl rfl ?_
      refine q_getf rfl rfl (by decide) rfl rfl ?_
      refine q_iload_n rfl rfl rfl ?_
      refine q_aload_n rfl rfl rfl ?_
      refine q_getf rfl rfl (by decide) rfl rfl ?_
      refine q_iload_n rfl rfl rfl ?_
      refine q_iald rfl rfl (by decide) rfl (by decide) (q_tn (z := 0) rfl ?_)
      refine q_iast rfl rfl (by decide) rfl (by decide) ?_
      refine q_icc3 (z := 16) rfl rfl rfl rfl rfl ?_
      refine q_goto rfl ?_
      refine q_iload_n rfl rfl rfl ?_
      refine q_bipush rfl rfl ?_
      refine q_icge rfl rfl (fun c321 => absurd c321 (by decide)) (fun c321 => ?_)
      refine q_aload_n rfl rfl rfl ?_
      refine q_getf rfl rfl (by decide) rfl rfl ?_
      refine q_iload_n rfl rfl rfl ?_
      refine q_aload_n rfl rfl rfl ?_
      refine q_getf rfl rfl (by decide) rfl rfl ?_
      refine q_iload_n rfl rfl rfl ?_
      refine q_iald rfl rfl (by decide) rfl (by decide) (q_tn (z := 0) rfl ?_)
      refine q_iast rfl rfl (by decide) rfl (by decide) ?_
      refine q_icc3 (z := 17) rfl rfl rfl rfl rfl ?_
      refine q_goto rfl ?_
      refine q_iload_n rfl rfl rfl ?_
      refine q_bipush rfl rfl ?_
      refine q_icge rfl rfl (fun c322 => absurd c322 (by decide)) (fun c322 => ?_)
      refine q_aload_n rfl rfl rfl ?_
      refine q_getf rfl rfl (by decide) rfl rfl ?_
      refine q_iload_n rfl rfl rfl ?_
      refine q_aload_n rfl rfl rfl ?_
      refine q_getf rfl rfl (by decide) rfl rfl ?_
      refine q_iload_n rfl rfl rfl ?_
      refine q_iald rfl rfl (by decide) rfl (by decide) (q_tn (z := 0) rfl ?_)
      refine q_iast rfl rfl (by decide) rfl (by decide) ?_
      refine q_icc3 (z := 18) rfl rfl rfl rfl rfl ?_
      refine q_goto rfl ?_
      refine q_iload_n rfl rfl rfl ?_
      refine q_bipush rfl rfl ?_
      refine q_icge rfl rfl (fun c323 => absurd c323 (by decide)) (fun c323 => ?_)
      refine q_aload_n rfl rfl rfl ?_
      refine q_getf rfl rfl (by decide) rfl rfl ?_
      refine q_iload_n rfl rfl rfl ?_
      refine q_aload_n rfl rfl rfl ?_
      refine q_getf rfl rfl (by decide) rfl rfl ?_
      refine q_iload_n rfl rfl rfl ?_
      refine q_iald rfl rfl (by decide) rfl (by decide) (q_tn (z := 0) rfl ?_)
      refine q_iast rfl rfl (by decide) rfl (by decide) ?_
      refine q_icc3 (z := 19) rfl rfl rfl rfl rfl ?_
      refine q_goto rfl ?_
      refine q_iload_n rfl rfl rfl ?_
      refine q_bipush rfl rfl ?_
      refine q_icge rfl rfl (fun c324 => absurd c324 (by decide)) (fun c324 => ?_)
      refine q_aload_n rfl rfl rfl ?_
      refine q_getf rfl rfl (by decide) rfl rfl ?_
      refine q_iload_n rfl rfl rfl ?_
      refine q_aload_n rfl rfl rfl ?_
      refine q_getf rfl rfl (by decide) rfl rfl ?_
      refine q_iload_n rfl rfl rfl ?_
      refine q_iald rfl rfl (by decide) rfl (by decide) (q_tn (z := 0) rfl ?_)
      refine q_iast rfl rfl (by decide) rfl (by decide) ?_
      refine q_icc3 (z := 20) rfl rfl rfl rfl rfl ?_
      refine q_goto rfl ?_
      refine q_iload_n rfl rfl rfl ?_
      refine q_bipush rfl rfl ?_
      refine q_icge rfl rfl (fun c325 => ?_) (fun c325 => absurd (by decide) c325)
      refine q_aload_n rfl rfl rfl ?_
      refine q_iload_n rfl rfl rfl ?_
      refine q_iconst rfl rfl ?_
      refine q_iconst rfl rfl ?_
      refine q_nV3 rfl rfl (Or.inl rfl) rfl rfl rfl (by decide) rfl ⟨rfl, rfl⟩ rfl ?_
      change PQ _ _ _ mm_X12_put 0 [.ref 46, .int 0, .int (-1), .int (-1), pm_un, pm_un, pm_un] [] _ _ 0 0 _
      refine q_aload_n rfl rfl rfl ?_
      refine q_getf rfl rfl (by decide) rfl rfl ?_
      refine q_iload_n rfl rfl rfl ?_
      refine q_iald rfl rfl (by decide) rfl (by decide) (q_tn (z := 0) rfl ?_)
      refine q_ist4 rfl rfl rfl rfl ?_
      refine q_iload rfl rfl rfl ?_
      refine q_sipush rfl rfl ?_
      refine q_icne rfl rfl (fun c326 => absurd c326 (by decide)) (fun c326 => ?_)
      refine q_sipush rfl rfl ?_
      refine q_iload_n rfl rfl rfl ?_
      refine q_imul rfl rfl (q_tn (z := 0) rfl ?_)
      refine q_iload rfl rfl rfl ?_
      refine q_iadd rfl rfl (q_tn (z := 0) rfl ?_)
      refine q_ist5 rfl rfl rfl rfl ?_
      refine q_iconst rfl rfl ?_
      refine q_ist6 rfl rfl rfl rfl ?_
      refine q_iload rfl rfl rfl ?_
      refine q_bipush rfl rfl ?_
      refine q_icge rfl rfl (fun c327 => absurd c327 (by decide)) (fun c327 => ?_)
      refine q_aload_n rfl rfl rfl ?_
      refine q_getf rfl rfl (by decide) rfl rfl ?_
      refine q_bipush rfl rfl ?_
      refine q_iload rfl rfl rfl ?_
      refine q_imul rfl rfl (q_tn (z := 0) rfl ?_)
      refine q_iload rfl rfl rfl ?_
      refine q_iadd rfl rfl (q_tn (z := 0) rfl ?_)
      refine q_aload_n rfl rfl rfl ?_
      refine q_getf rfl rfl (by decide) rfl rfl ?_
      refine q_iload rfl rfl rfl ?_
      refine q_iald rfl rfl (by decide) rfl (by decide) (q_tn (z := 10) rfl ?_)
      refine q_iast rfl rfl (by decide) (FW_55 S hW) (by decide) ?_
      refine q_icc6 (z := 1) rfl rfl rfl rfl rfl ?_
      refine q_goto rfl ?_
      refine q_iload rfl rfl rfl ?_
      refine q_bipush rfl rfl ?_
      refine q_icge rfl rfl (fun c328 => absurd c328 (by decide)) (fun c328 => ?_)
      refine q_aload_n rfl rfl rfl ?_
      refine q_getf rfl rfl (by decide) rfl rfl ?_
      refine q_bipush rfl rfl ?_
      refine q_iload rfl rfl rfl ?_
      refine q_imul rfl rfl (q_tn (z := 0) rfl ?_)
      refine q_iload rfl rfl rfl ?_
      refine q_iadd rfl rfl (q_tn (z := 1) rfl ?_)
      refine q_aload_n rfl rfl rfl ?_
      refine q_getf rfl rfl (by decide) rfl rfl ?_
      refine q_iload rfl rfl rfl ?_
      refine q_iald rfl rfl (by decide) rfl (by decide) (q_tn (z := 0) rfl ?_)
      refine q_iast rfl rfl (by decide) rfl (by decide) ?_
      refine q_icc6 (z := 2) rfl rfl rfl rfl rfl ?_
      refine q_goto rfl ?_
      refine q_iload rfl rfl rfl ?_
      refine q_bipush rfl rfl ?_
      refine q_icge rfl rfl (fun c329 => absurd c329 (by decide)) (fun c329 => ?_)
      refine q_aload_n rfl rfl rfl ?_
      refine q_getf rfl rfl (by decide) rfl rfl ?_
      refine q_bipush rfl rfl ?_
      refine q_iload rfl rfl rfl ?_
      refine q_imul rfl rfl (q_tn (z := 0) rfl ?_)
      refine q_iload rfl rfl rfl ?_
      refine q_iadd rfl rfl (q_tn (z := 2) rfl ?_)
      refine q_aload_n rfl rfl rfl ?_
      refine q_getf rfl rfl (by decide) rfl rfl ?_
      refine q_iload rfl rfl rfl ?_
      refine q_iald rfl rfl (by decide) rfl (by decide) (q_tn (z := 0) rfl ?_)
      refine q_iast rfl rfl (by decide) rfl (by decide) ?_
      refine q_icc6 (z := 3) rfl rfl rfl rfl rfl ?_
      refine q_goto rfl ?_
      refine q_iload rfl rfl rfl ?_
      refine q_bipush rfl rfl ?_
      refine q_icge rfl rfl (fun c330 => absurd c330 (by decide)) (fun c330 => ?_)
      refine q_aload_n rfl rfl rfl ?_
      refine q_getf rfl rfl (by decide) rfl rfl ?_
      refine q_bipush rfl rfl ?_
      refine q_iload rfl rfl rfl ?_
      refine q_imul rfl rfl (q_tn (z := 0) rfl ?_)
      refine q_iload rfl rfl rfl ?_
      refine q_iadd rfl rfl (q_tn (z := 3) rfl ?_)
      refine q_aload_n rfl rfl rfl ?_
      refine q_getf rfl rfl (by decide) rfl rfl ?_
      refine q_iload rfl rfl rfl ?_
      refine q_iald rfl rfl (by decide) rfl (by decide) (q_tn (z := 0) rfl ?_)
      refine q_iast rfl rfl (by decide) rfl (by decide) ?_
      refine q_icc6 (z := 4) rfl rfl rfl rfl rfl ?_
      refine q_goto rfl ?_
      refine q_iload rfl rfl rfl ?_
      refine q_bipush rfl rfl ?_
      refine q_icge rfl rfl (fun c331 => absurd c331 (by decide)) (fun c331 => ?_)
      refine q_aload_n rfl rfl rfl ?_
      refine q_getf rfl rfl (by decide) rfl rfl ?_
      refine q_bipush rfl rfl ?_
      refine q_iload rfl rfl rfl ?_
      refine q_imul rfl rfl (q_tn (z := 0) rfl ?_)
      refine q_iload rfl rfl rfl ?_
      refine q_iadd rfl rfl (q_tn (z := 4) rfl ?_)
      refine q_aload_n rfl rfl rfl ?_
      refine q_getf rfl rfl (by decide) rfl rfl ?_
      refine q_iload rfl rfl rfl ?_
      refine q_iald rfl rfl (by decide) rfl (by decide) (q_tn (z := 0) rfl ?_)
      refine q_iast rfl rfl (by decide) rfl (by decide) ?_
      refine q_icc6 (z := 5) rfl rfl rfl rfl rfl ?_
      refine q_goto rfl ?_
      refine q_iload rfl rfl rfl ?_
      refine q_bipush rfl rfl ?_
      refine q_icge rfl rfl (fun c332 => absurd c332 (by decide)) (fun c332 => ?_)
      refine q_aload_n rfl rfl rfl ?_
      refine q_getf rfl rfl (by decide) rfl rfl ?_
      refine q_bipush rfl rfl ?_
      refine q_iload rfl rfl rfl ?_
      refine q_imul rfl rfl (q_tn (z := 0) rfl ?_)
      refine q_iload rfl rfl rfl ?_
      refine q_iadd rfl rfl (q_tn (z := 5) rfl ?_)
      refine q_aload_n rfl rfl rfl ?_
      refine q_getf rfl rfl (by decide) rfl rfl ?_
      refine q_iload rfl rfl rfl ?_
      refine q_iald rfl rfl (by decide) rfl (by decide) (q_tn (z := 0) rfl ?_)
      refine q_iast rfl rfl (by decide) rfl (by decide) ?_
      refine q_icc6 (z := 6) rfl rfl rfl rfl rfl ?_
      refine q_goto rfl ?_
      refine q_iload rfl rfl rfl ?_
      refine q_bipush rfl rfl ?_
      refine q_icge rfl rfl (fun c333 => absurd c333 (by decide)) (fun c333 => ?_)
      refine q_aload_n rfl rfl rfl ?_
      refine q_getf rfl rfl (by decide) rfl rfl ?_
      refine q_bipush rfl rfl ?_
      refine q_iload rfl rfl rfl ?_
      refine q_imul rfl rfl (q_tn (z := 0) rfl ?_)
      refine q_iload rfl rfl rfl ?_
      refine q_iadd rfl rfl (q_tn (z := 6) rfl ?_)
      refine q_aload_n rfl rfl rfl ?_
      refine q_getf rfl rfl (by decide) rfl rfl ?_
      refine q_iload rfl rfl rfl ?_
      refine q_iald rfl rfl (by decide) rfl (by decide) (q_tn (z := 0) rfl ?_)
      refine q_iast rfl rfl (by decide) rfl (by decide) ?_
      refine q_icc6 (z := 7) rfl rfl rfl rfl rfl ?_
      refine q_goto rfl ?_
      refine q_iload rfl rfl rfl ?_
      refine q_bipush rfl rfl ?_
      refine q_icge rfl rfl (fun c334 => absurd c334 (by decide)) (fun c334 => ?_)
      refine q_aload_n rfl rfl rfl ?_
      refine q_getf rfl rfl (by decide) rfl rfl ?_
      refine q_bipush rfl rfl ?_
      refine q_iload rfl rfl rfl ?_
      refine q_imul rfl rfl (q_tn (z := 0) rfl ?_)
      refine q_iload rfl rfl rfl ?_
      refine q_iadd rfl rfl (q_tn (z := 7) rfl ?_)
      refine q_aload_n rfl rfl rfl ?_
      refine q_getf rfl rfl (by decide) rfl rfl ?_
      refine q_iload rfl rfl rfl ?_
      refine q_iald rfl rfl (by decide) rfl (by decide) (q_tn (z := 0) rfl ?_)
      refine q_iast rfl rfl (by decide) rfl (by decide) ?_
      refine q_icc6 (z := 8) rfl rfl rfl rfl rfl ?_
      refine q_goto rfl ?_
      refine q_iload rfl rfl rfl ?_
      refine q_bipush rfl rfl ?_
      refine q_icge rfl rfl (fun c335 => absurd c335 (by decide)) (fun c335 => ?_)
      refine q_aload_n rfl rfl rfl ?_
      refine q_getf rfl rfl (by decide) rfl rfl ?_
      refine q_bipush rfl rfl ?_
      refine q_iload rfl rfl rfl ?_
      refine q_imul rfl rfl (q_tn (z := 0) rfl ?_)
      refine q_iload rfl rfl rfl ?_
      refine q_iadd rfl rfl (q_tn (z := 8) rfl ?_)
      refine q_aload_n rfl rfl rfl ?_
      refine q_getf rfl rfl (by decide) rfl rfl ?_
      refine q_iload rfl rfl rfl ?_
      refine q_iald rfl rfl (by decide) rfl (by decide) (q_tn (z := 0) rfl ?_)
      refine q_iast rfl rfl (by decide) rfl (by decide) ?_
      refine q_icc6 (z := 9) rfl rfl rfl rfl rfl ?_
      refine q_goto rfl ?_
      refine q_iload rfl rfl rfl ?_
      refine q_bipush rfl rfl ?_
      refine q_icge rfl rfl (fun c336 => absurd c336 (by decide)) (fun c336 => ?_)
      refine q_aload_n rfl rfl rfl ?_
      refine q_getf rfl rfl (by decide) rfl rfl ?_
      refine q_bipush rfl rfl ?_
      refine q_iload rfl rfl rfl ?_
      refine q_imul rfl rfl (q_tn (z := 0) rfl ?_)
      refine q_iload rfl rfl rfl ?_
      refine q_iadd rfl rfl (q_tn (z := 9) rfl ?_)
      refine q_aload_n rfl rfl rfl ?_
      refine q_getf rfl rfl (by decide) rfl rfl ?_
      refine q_iload rfl rfl rfl ?_
      refine q_iald rfl rfl (by decide) rfl (by decide) (q_tn (z := 0) rfl ?_)
      refine q_iast rfl rfl (by decide) rfl (by decide) ?_
      refine q_icc6 (z := 10) rfl rfl rfl rfl rfl ?_
      refine q_goto rfl ?_
      refine q_iload rfl rfl rfl ?_
      refine q_bipush rfl rfl ?_
      refine q_icge rfl rfl (fun c337 => absurd c337 (by decide)) (fun c337 => ?_)
      refine q_aload_n rfl rfl rfl ?_
      refine q_getf rfl rfl (by decide) rfl rfl ?_
      refine q_bipush rfl rfl ?_
      refine q_iload rfl rfl rfl ?_
      refine q_imul rfl rfl (q_tn (z := 0) rfl ?_)
      refine q_iload rfl rfl rfl ?_
      refine q_iadd rfl rfl (q_tn (z := 10) rfl ?_)
      refine q_aload_n rfl rfl rfl ?_
      refine q_getf rfl rfl (by decide) rfl rfl ?_
      refine q_iload rfl rfl rfl ?_
      refine q_iald rfl rfl (by decide) rfl (by decide) (q_tn (z := 0) rfl ?_)
      refine q_iast rfl rfl (by decide) rfl (by decide) ?_
      refine q_icc6 (z := 11) rfl rfl rfl rfl rfl ?_
      refine q_goto rfl ?_
      refine q_iload rfl rfl rfl ?_
      refine q_bipush rfl rfl ?_
      refine q_icge rfl rfl (fun c338 => absurd c338 (by decide)) (fun c338 => ?_)
      refine q_aload_n rfl rfl rfl ?_
      refine q_getf rfl rfl (by decide) rfl rfl ?_
      refine q_bipush rfl rfl ?_
      refine q_iload rfl rfl rfl ?_
      refine q_imul rfl rfl (q_tn (z := 0) rfl ?_)
      refine q_iload rfl rfl rfl ?_
      refine q_iadd rfl rfl (q_tn (z := 11) rfl ?_)
      refine q_aload_n rfl rfl rfl ?_
      refine q_getf rfl rfl (by decide) rfl rfl ?_
      refine q_iload rfl rfl rfl ?_
      refine q_iald rfl rfl (by decide) rfl (by decide) (q_tn (z := 0) rfl ?_)
      refine q_iast rfl rfl (by decide) rfl (by decide) ?_
      refine q_icc6 (z := 12) rfl rfl rfl rfl rfl ?_
      refine q_goto rfl ?_
      refine q_iload rfl rfl rfl ?_
      refine q_bipush rfl rfl ?_
      refine q_icge rfl rfl (fun c339 => absurd c339 (by decide)) (fun c339 => ?_)
      refine q_aload_n rfl rfl rfl ?_
      refine q_getf rfl rfl (by decide) rfl rfl ?_
      refine q_bipush rfl rfl ?_
      refine q_iload rfl rfl rfl ?_
      refine q_imul rfl rfl (q_tn (z := 0) rfl ?_)
      refine q_iload rfl rfl rfl ?_
      refine q_iadd rfl rfl (q_tn (z := 12) rfl ?_)
      refine q_aload_n rfl rfl rfl ?_
      refine q_getf rfl rfl (by decide) rfl rfl ?_
      refine q_iload rfl rfl rfl ?_
      refine q_iald rfl rfl (by decide) rfl (by decide) (q_tn (z := 0) rfl ?_)
      refine q_iast rfl rfl (by decide) rfl (by decide) ?_
      refine q_icc6 (z := 13) rfl rfl rfl rfl rfl ?_
      refine q_goto rfl ?_
      refine q_iload rfl rfl rfl ?_
      refine q_bipush rfl rfl ?_
      refine q_icge rfl rfl (fun c340 => absurd c340 (by decide)) (fun c340 => ?_)
      refine q_aload_n rfl rfl rfl ?_
      refine q_getf rfl rfl (by decide) rfl rfl ?_
      refine q_bipush rfl rfl ?_
      refine q_iload rfl rfl rfl ?_
      refine q_imul rfl rfl (q_tn (z := 0) rfl ?_)
      refine q_iload rfl rfl rfl ?_
      refine q_iadd rfl rfl (q_tn (z := 13) rfl ?_)
      refine q_aload_n rfl rfl rfl ?_
      refine q_getf rfl rfl (by decide) rfl rfl ?_
      refine q_iload rfl rfl rfl ?_
      refine q_iald rfl rfl (by decide) rfl (by decide) (q_tn (z := 0) rfl ?_)
      refine q_iast rfl rfl (by decide) rfl (by decide) ?_
      refine q_icc6 (z := 14) rfl rfl rfl rfl rfl ?_
      refine q_goto rfl ?_
      refine q_iload rfl rfl rfl ?_
      refine q_bipush rfl rfl ?_
      refine q_icge rfl rfl (fun c341 => absurd c341 (by decide)) (fun c341 => ?_)
      refine q_aload_n rfl rfl rfl ?_
      refine q_getf rfl rfl (by decide) rfl rfl ?_
      refine q_bipush rfl rfl ?_
      refine q_iload rfl rfl rfl ?_
      refine q_imul rfl rfl (q_tn (z := 0) rfl ?_)
      refine q_iload rfl rfl rfl ?_
      refine q_iadd rfl rfl (q_tn (z := 14) rfl ?_)
      refine q_aload_n rfl rfl rfl ?_
      refine q_getf rfl rfl (by decide) rfl rfl ?_
      refine q_iload rfl rfl rfl ?_
      refine q_iald rfl rfl (by decide) rfl (by decide) (q_tn (z := 0) rfl ?_)
      refine q_iast rfl rfl (by decide) rfl (by decide) ?_
      refine q_icc6 (z := 15) rfl rfl rfl rfl rfl ?_
      refine q_goto rfl ?_
      refine q_iload rfl rfl rfl ?_
      refine q_bipush rfl rfl ?_
      refine q_icge rfl rfl (fun c342 => absurd c342 (by decide)) (fun c342 => ?_)
      refine q_aload_n rfl rfl rfl ?_
      refine q_getf rfl rfl (by decide) rfl rfl ?_
      refine q_bipush rfl rfl ?_
      refine q_iload rfl rfl rfl ?_
      refine q_imul rfl rfl (q_tn (z := 0) rfl ?_)
      refine q_iload rfl rfl rfl ?_
      refine q_iadd rfl rfl (q_tn (z := 15) rfl ?_)
      refine q_aload_n rfl rfl rfl ?_
      refine q_getf rfl rfl (by decide) rfl rfl ?_
      refine q_iload rfl rfl rfl ?_
      refine q_iald rfl rfl (by decide) rfl (by decide) (q_tn (z := 0) rfl ?_)
      refine q_iast rfl rfl (by decide) rfl (by decide) ?_
      refine q_icc6 (z := 16) rfl rfl rfl rfl rfl ?_
      refine q_goto rfl ?_
      refine q_iload rfl rfl rfl ?_
      refine q_bipush rfl rfl ?_
      refine q_icge rfl rfl (fun c343 => absurd c343 (by decide)) (fun c343 => ?_)
      refine q_aload_n rfl rfl rfl ?_
      refine q_getf rfl rfl (by decide) rfl rfl ?_
      refine q_bipush rfl rfl ?_
      refine q_iload rfl rfl rfl ?_
      refine q_imul rfl rfl (q_tn (z := 0) rfl ?_)
      refine q_iload rfl rfl rfl ?_
      refine q_iadd rfl rfl (q_tn (z := 16) rfl ?_)
      refine q_aload_n rfl rfl rfl ?_
      refine q_getf rfl rfl (by decide) rfl rfl ?_
      refine q_iload rfl rfl rfl ?_
      refine q_iald rfl rfl (by decide) rfl (by decide) (q_tn (z := 0) rfl ?_)
      refine q_iast rfl rfl (by decide) rfl (by decide) ?_
      refine q_icc6 (z := 17) rfl rfl rfl rfl rfl ?_
      refine q_goto rfl ?_
      refine q_iload rfl rfl rfl ?_
      refine q_bipush rfl rfl ?_
      refine q_icge rfl rfl (fun c344 => absurd c344 (by decide)) (fun c344 => ?_)
      refine q_aload_n rfl rfl rfl ?_
      refine q_getf rfl rfl (by decide) rfl rfl ?_
      refine q_bipush rfl rfl ?_
      refine q_iload rfl rfl rfl ?_
      refine q_imul rfl rfl (q_tn (z := 0) rfl ?_)
      refine q_iload rfl rfl rfl ?_
      refine q_iadd rfl rfl (q_tn (z := 17) rfl ?_)
      refine q_aload_n rfl rfl rfl ?_
      refine q_getf rfl rfl (by decide) rfl rfl ?_
      refine q_iload rfl rfl rfl ?_
      refine q_iald rfl rfl (by decide) rfl (by decide) (q_tn (z := 0) rfl ?_)
      refine q_iast rfl rfl (by decide) rfl (by decide) ?_
      refine q_icc6 (z := 18) rfl rfl rfl rfl rfl ?_
      refine q_goto rfl ?_
      refine q_iload rfl rfl rfl ?_
      refine q_bipush rfl rfl ?_
      refine q_icge rfl rfl (fun c345 => absurd c345 (by decide)) (fun c345 => ?_)
      refine q_aload_n rfl rfl rfl ?_
      refine q_getf rfl rfl (by decide) rfl rfl ?_
      refine q_bipush rfl rfl ?_
      refine q_iload rfl rfl rfl ?_
      refine q_imul rfl rfl (q_tn (z := 0) rfl ?_)
      refine q_iload rfl rfl rfl ?_
      refine q_iadd rfl rfl (q_tn (z := 18) rfl ?_)
      refine q_aload_n rfl rfl rfl ?_
      refine q_getf rfl rfl (by decide) rfl rfl ?_
      refine q_iload rfl rfl rfl ?_
      refine q_iald rfl rfl (by decide) rfl (by decide) (q_tn (z := 0) rfl ?_)
      refine q_iast rfl rfl (by decide) rfl (by decide) ?_
      refine q_icc6 (z := 19) rfl rfl rfl rfl rfl ?_
      refine q_goto rfl ?_
      refine q_iload rfl rfl rfl ?_
      refine q_bipush rfl rfl ?_
      refine q_icge rfl rfl (fun c346 => absurd c346 (by decide)) (fun c346 => ?_)
      refine q_aload_n rfl rfl rfl ?_
      refine q_getf rfl rfl (by decide) rfl rfl ?_
      refine q_bipush rfl rfl ?_
      refine q_iload rfl rfl rfl ?_
      refine q_imul rfl rfl (q_tn (z := 0) rfl ?_)
      refine q_iload rfl rfl rfl ?_
      refine q_iadd rfl rfl (q_tn (z := 19) rfl ?_)
      refine q_aload_n rfl rfl rfl ?_
      refine q_getf rfl rfl (by decide) rfl rfl ?_
      refine q_iload rfl rfl rfl ?_
      refine q_iald rfl rfl (by decide) rfl (by decide) (q_tn (z := 0) rfl ?_)
      refine q_iast rfl rfl (by decide) rfl (by decide) ?_
      refine q_icc6 (z := 20) rfl rfl rfl rfl rfl ?_
      refine q_goto rfl ?_
      refine q_iload rfl rfl rfl ?_
      refine q_bipush rfl rfl ?_
      refine q_icge rfl rfl (fun c347 => ?_) (fun c347 => absurd (by decide) c347)
      refine q_aload_n rfl rfl rfl ?_
      refine q_getf rfl rfl (by decide) rfl rfl ?_
      refine q_iload rfl rfl rfl ?_
      refine q_iload_n rfl rfl rfl ?_
      refine q_iast rfl rfl (by decide) (FW_56 S hW) (by decide) ?_
      refine q_aload_n rfl rfl rfl ?_
      refine q_getf rfl rfl (by decide) rfl rfl ?_
      refine q_iload rfl rfl rfl ?_
      refine q_iload_n rfl rfl rfl ?_
      refine q_iast rfl rfl (by decide) (FW_57 S hW) (by decide) ?_
      refine q_aload_n rfl rfl rfl ?_
      refine q_iload_n rfl rfl rfl ?_
      refine q_nV1 rfl rfl (Or.inl rfl) rfl rfl rfl (by decide) rfl ⟨rfl, rfl⟩ rfl ?_
      change PQ _ _ _ mm_X12_rest 0 [.ref 46, .int 0, pm_un, pm_un] [] _ _ 0 0 _
      refine q_bipush rfl rfl ?_
      refine q_ist2n rfl rfl rfl rfl ?_
      refine q_iconst rfl rfl ?_
      refine q_ist3n rfl rfl rfl rfl ?_
      refine q_iload_n rfl rfl rfl ?_
      refine q_bipush rfl rfl ?_
      refine q_icge rfl rfl (fun c348 => absurd c348 (by decide)) (fun c348 => ?_)
      refine q_bipush rfl rfl ?_
      refine q_iload_n rfl rfl rfl ?_
      refine q_imul rfl rfl (q_tn (z := 527) rfl ?_)
      refine q_aload_n rfl rfl rfl ?_
      refine q_getf rfl rfl (by decide) rfl rfl ?_
      refine q_iload_n rfl rfl rfl ?_
      refine q_iald rfl rfl (by decide) rfl (by decide) (q_tn (z := 10) rfl ?_)
      refine q_iadd rfl rfl (q_tn (z := 537) rfl ?_)
      refine q_ist2n rfl rfl rfl rfl ?_
      refine q_icc3 (z := 1) rfl rfl rfl rfl rfl ?_
      refine q_goto rfl ?_
      refine q_iload_n rfl rfl rfl ?_
      refine q_bipush rfl rfl ?_
      refine q_icge rfl rfl (fun c349 => absurd c349 (by decide)) (fun c349 => ?_)
      refine q_bipush rfl rfl ?_
      refine q_iload_n rfl rfl rfl ?_
      refine q_imul rfl rfl (q_tn (z := 16647) rfl ?_)
      refine q_aload_n rfl rfl rfl ?_
      refine q_getf rfl rfl (by decide) rfl rfl ?_
      refine q_iload_n rfl rfl rfl ?_
      refine q_iald rfl rfl (by decide) rfl (by decide) (q_tn (z := 0) rfl ?_)
      refine q_iadd rfl rfl (q_tn (z := 16647) rfl ?_)
      refine q_ist2n rfl rfl rfl rfl ?_
      refine q_icc3 (z := 2) rfl rfl rfl rfl rfl ?_
      refine q_goto rfl ?_
      refine q_iload_n rfl rfl rfl ?_
      refine q_bipush rfl rfl ?_
      refine q_icge rfl rfl (fun c350 => absurd c350 (by decide)) (fun c350 => ?_)
      refine q_bipush rfl rfl ?_
      refine q_iload_n rfl rfl rfl ?_
      refine q_imul rfl rfl (q_tn (z := 516057) rfl ?_)
      refine q_aload_n rfl rfl rfl ?_
      refine q_getf rfl rfl (by decide) rfl rfl ?_
      refine q_iload_n rfl rfl rfl ?_
      refine q_iald rfl rfl (by decide) rfl (by decide) (q_tn (z := 0) rfl ?_)
      refine q_iadd rfl rfl (q_tn (z := 516057) rfl ?_)
      refine q_ist2n rfl rfl rfl rfl ?_
      refine q_icc3 (z := 3) rfl rfl rfl rfl rfl ?_
      refine q_goto rfl ?_
      refine q_iload_n rfl rfl rfl ?_
      refine q_bipush rfl rfl ?_
      refine q_icge rfl rfl (fun c351 => absurd c351 (by decide)) (fun c351 => ?_)
      refine q_bipush rfl rfl ?_
      refine q_iload_n rfl rfl rfl ?_
      refine q_imul rfl rfl (q_tn (z := 15997767) rfl ?_)
      refine q_aload_n rfl rfl rfl ?_
      refine q_getf rfl rfl (by decide) rfl rfl ?_
      refine q_iload_n rfl rfl rfl ?_
      refine q_iald rfl rfl (by decide) rfl (by decide) (q_tn (z := 0) rfl ?_)
      refine q_iadd rfl rfl (q_tn (z := 15997767) rfl ?_)
      refine q_ist2n rfl rfl rfl rfl ?_
      refine q_icc3 (z := 4) rfl rfl rfl rfl rfl ?_
      refine q_goto rfl ?_
      refine q_iload_n rfl rfl rfl ?_
      refine q_bipush rfl rfl ?_
      refine q_icge rfl rfl (fun c352 => absurd c352 (by decide)) (fun c352 => ?_)
      refine q_bipush rfl rfl ?_
      refine q_iload_n rfl rfl rfl ?_
      refine q_imul rfl rfl (q_tn (z := 495930777) rfl ?_)
      refine q_aload_n rfl rfl rfl ?_
      refine q_getf rfl rfl (by decide) rfl rfl ?_
      refine q_iload_n rfl rfl rfl ?_
      refine q_iald rfl rfl (by decide) rfl (by decide) (q_tn (z := 0) rfl ?_)
      refine q_iadd rfl rfl (q_tn (z := 495930777) rfl ?_)
      refine q_ist2n rfl rfl rfl rfl ?_
      refine q_icc3 (z := 5) rfl rfl rfl rfl rfl ?_
      refine q_goto rfl ?_
      refine q_iload_n rfl rfl rfl ?_
      refine q_bipush rfl rfl ?_
      refine q_icge rfl rfl (fun c353 => absurd c353 (by decide)) (fun c353 => ?_)
      refine q_bipush rfl rfl ?_
      refine q_iload_n rfl rfl rfl ?_
      refine q_imul rfl rfl (q_tn (z := (-1806015097)) rfl ?_)
      refine q_aload_n rfl rfl rfl ?_
      refine q_getf rfl rfl (by decide) rfl rfl ?_
      refine q_iload_n rfl rfl rfl ?_
      refine q_iald rfl rfl (by decide) rfl (by decide) (q_tn (z := 0) rfl ?_)
      refine q_iadd rfl rfl (q_tn (z := (-1806015097)) rfl ?_)
      refine q_ist2n rfl rfl rfl rfl ?_
      refine q_icc3 (z := 6) rfl rfl rfl rfl rfl ?_
      refine q_goto rfl ?_
      refine q_iload_n rfl rfl rfl ?_
      refine q_bipush rfl rfl ?_
      refine q_icge rfl rfl (fun c354 => absurd c354 (by decide)) (fun c354 => ?_)
      refine q_bipush rfl rfl ?_
      refine q_iload_n rfl rfl rfl ?_
      refine q_imul rfl rfl (q_tn (z := (-151893159)) rfl ?_)
      refine q_aload_n rfl rfl rfl ?_
      refine q_getf rfl rfl (by decide) rfl rfl ?_
      refine q_iload_n rfl rfl rfl ?_
      refine q_iald rfl rfl (by decide) rfl (by decide) (q_tn (z := 0) rfl ?_)
      refine q_iadd rfl rfl (q_tn (z := (-151893159)) rfl ?_)
      refine q_ist2n rfl rfl rfl rfl ?_
      refine q_icc3 (z := 7) rfl rfl rfl rfl rfl ?_
      refine q_goto rfl ?_
      refine q_iload_n rfl rfl rfl ?_
      refine q_bipush rfl rfl ?_
      refine q_icge rfl rfl (fun c355 => absurd c355 (by decide)) (fun c355 => ?_)
      refine q_bipush rfl rfl ?_
      refine q_iload_n rfl rfl rfl ?_
      refine q_imul rfl rfl (q_tn (z := (-413720633)) rfl ?_)
      refine q_aload_n rfl rfl rfl ?_
      refine q_getf rfl rfl (by decide) rfl rfl ?_
      refine q_iload_n rfl rfl rfl ?_
      refine q_iald rfl rfl (by decide) rfl (by decide) (q_tn (z := 0) rfl ?_)
      refine q_iadd rfl rfl (q_tn (z := (-413720633)) rfl ?_)
      refine q_ist2n rfl rfl rfl rfl ?_
      refine q_icc3 (z := 8) rfl rfl rfl rfl rfl ?_
      refine q_goto rfl ?_
      refine q_iload_n rfl rfl rfl ?_
      refine q_bipush rfl rfl ?_
      refine q_icge rfl rfl (fun c356 => absurd c356 (by decide)) (fun c356 => ?_)
      refine q_bipush rfl rfl ?_
      refine q_iload_n rfl rfl rfl ?_
      refine q_imul rfl rfl (q_tn (z := 59562265) rfl ?_)
      refine q_aload_n rfl rfl rfl ?_
      refine q_getf rfl rfl (by decide) rfl rfl ?_
      refine q_iload_n rfl rfl rfl ?_
      refine q_iald rfl rfl (by decide) rfl (by decide) (q_tn (z := 0) rfl ?_)
      refine q_iadd rfl rfl (q_tn (z := 59562265) rfl ?_)
      refine q_ist2n rfl rfl rfl rfl ?_
      refine q_icc3 (z := 9) rfl rfl rfl rfl rfl ?_
      refine q_goto rfl ?_
      refine q_iload_n rfl rfl rfl ?_
      refine q_bipush rfl rfl ?_
      refine q_icge rfl rfl (fun c357 => absurd c357 (by decide)) (fun c357 => ?_)
      refine q_bipush rfl rfl ?_
      refine q_iload_n rfl rfl rfl ?_
      refine q_imul rfl rfl (q_tn (z := 1846430215) rfl ?_)
      refine q_aload_n rfl rfl rfl ?_
      refine q_getf rfl rfl (by decide) rfl rfl ?_
      refine q_iload_n rfl rfl rfl ?_
      refine q_iald rfl rfl (by decide) rfl (by decide) (q_tn (z := 0) rfl ?_)
      refine q_iadd rfl rfl (q_tn (z := 1846430215) rfl ?_)
      refine q_ist2n rfl rfl rfl rfl ?_
      refine q_icc3 (z := 10) rfl rfl rfl rfl rfl ?_
      refine q_goto rfl ?_
      refine q_iload_n rfl rfl rfl ?_
      refine q_bipush rfl rfl ?_
      refine q_icge rfl rfl (fun c358 => absurd c358 (by decide)) (fun c358 => ?_)
      refine q_bipush rfl rfl ?_
      refine q_iload_n rfl rfl rfl ?_
      refine q_imul rfl rfl (q_tn (z := 1404761817) rfl ?_)
      refine q_aload_n rfl rfl rfl ?_
      refine q_getf rfl rfl (by decide) rfl rfl ?_
      refine q_iload_n rfl rfl rfl ?_
      refine q_iald rfl rfl (by decide) rfl (by decide) (q_tn (z := 0) rfl ?_)
      refine q_iadd rfl rfl (q_tn (z := 1404761817) rfl ?_)
      refine q_ist2n rfl rfl rfl rfl ?_
      refine q_icc3 (z := 11) rfl rfl rfl rfl rfl ?_
      refine q_goto rfl ?_
      refine q_iload_n rfl rfl rfl ?_
      refine q_bipush rfl rfl ?_
      refine q_icge rfl rfl (fun c359 => absurd c359 (by decide)) (fun c359 => ?_)
      refine q_bipush rfl rfl ?_
      refine q_iload_n rfl rfl rfl ?_
      refine q_imul rfl rfl (q_tn (z := 597943367) rfl ?_)
      refine q_aload_n rfl rfl rfl ?_
      refine q_getf rfl rfl (by decide) rfl rfl ?_
      refine q_iload_n rfl rfl rfl ?_
      refine q_iald rfl rfl (by decide) rfl (by decide) (q_tn (z := 0) rfl ?_)
      refine q_iadd rfl rfl (q_tn (z := 597943367) rfl ?_)
      refine q_ist2n rfl rfl rfl rfl ?_
      refine q_icc3 (z := 12) rfl rfl rfl rfl rfl ?_
      refine q_goto rfl ?_
      refine q_iload_n rfl rfl rfl ?_
      refine q_bipush rfl rfl ?_
      refine q_icge rfl rfl (fun c360 => absurd c360 (by decide)) (fun c360 => ?_)
      refine q_bipush rfl rfl ?_
      refine q_iload_n rfl rfl rfl ?_
      refine q_imul rfl rfl (q_tn (z := 1356375193) rfl ?_)
      refine q_aload_n rfl rfl rfl ?_
      refine q_getf rfl rfl (by decide) rfl rfl ?_
      refine q_iload_n rfl rfl rfl ?_
      refine q_iald rfl rfl (by decide) rfl (by decide) (q_tn (z := 0) rfl ?_)
      refine q_iadd rfl rfl (q_tn (z := 1356375193) rfl ?_)
      refine q_ist2n rfl rfl rfl rfl ?_
      refine q_icc3 (z := 13) rfl rfl rfl rfl rfl ?_
      refine q_goto rfl ?_
      refine q_iload_n rfl rfl rfl ?_
      refine q_bipush rfl rfl ?_
      refine q_icge rfl rfl (fun c361 => absurd c361 (by decide)) (fun c361 => ?_)
      refine q_bipush rfl rfl ?_
      refine q_iload_n rfl rfl rfl ?_
      refine q_imul rfl rfl (q_tn (z := (-902041977)) rfl ?_)
      refine q_aload_n rfl rfl rfl ?_
      refine q_getf rfl rfl (by decide) rfl rfl ?_
      refine q_iload_n rfl rfl rfl ?_
      as_aux_lemma =>
        refine q_iald rfl rfl (by decide) rfl (by decide) (q_tn (z := 0) rfl ?_)
        refine q_iadd rfl rfl (q_tn (z := (-902041977)) rfl ?_)
        refine q_ist2n rfl rfl rfl rfl ?_
        refine q_icc3 (z := 14) rfl rfl rfl rfl rfl ?_
        refine q_goto rfl ?_
        refine q_iload_n rfl rfl rfl ?_
        refine q_bipush rfl rfl ?_
        refine q_icge rfl rfl (fun c362 => absurd c362 (by decide)) (fun c362 => ?_)
        refine q_bipush rfl rfl ?_
        refine q_iload_n rfl rfl rfl ?_
        refine q_imul rfl rfl (q_tn (z := 2101469785) rfl ?_)
        refine q_aload_n rfl rfl rfl ?_
        refine q_getf rfl rfl (by decide) rfl rfl ?_
        refine q_iload_n rfl rfl rfl ?_
        refine q_iald rfl rfl (by decide) rfl (by decide) (q_tn (z := 0) rfl ?_)
        refine q_iadd rfl rfl (q_tn (z := 2101469785) rfl ?_)
        refine q_ist2n rfl rfl rfl rfl ?_
        refine q_icc3 (z := 15) rfl rfl rfl rfl rfl ?_
        refine q_goto rfl ?_
        refine q_iload_n rfl rfl rfl ?_
        refine q_bipush rfl rfl ?_
        refine q_icge rfl rfl (fun c363 => absurd c363 (by decide)) (fun c363 => ?_)
        refine q_bipush rfl rfl ?_
        refine q_iload_n rfl rfl rfl ?_
        refine q_imul rfl rfl (q_tn (z := 721053895) rfl ?_)
        refine q_aload_n rfl rfl rfl ?_
        refine q_getf rfl rfl (by decide) rfl rfl ?_
        refine q_iload_n rfl rfl rfl ?_
        refine q_iald rfl rfl (by decide) rfl (by decide) (q_tn (z := 0) rfl ?_)
        refine q_iadd rfl rfl (q_tn (z := 721053895) rfl ?_)
        refine q_ist2n rfl rfl rfl rfl ?_
        refine q_icc3 (z := 16) rfl rfl rfl rfl rfl ?_
        refine q_goto rfl ?_
        refine q_iload_n rfl rfl rfl ?_
        refine q_bipush rfl rfl ?_
        refine q_icge rfl rfl (fun c364 => absurd c364 (by decide)) (fun c364 => ?_)
        refine q_bipush rfl rfl ?_
        refine q_iload_n rfl rfl rfl ?_
        refine q_imul rfl rfl (q_tn (z := 877834265) rfl ?_)
        refine q_aload_n rfl rfl rfl ?_
        refine q_getf rfl rfl (by decide) rfl rfl ?_
        refine q_iload_n rfl rfl rfl ?_
        refine q_iald rfl rfl (by decide) rfl (by decide) (q_tn (z := 0) rfl ?_)
        refine q_iadd rfl rfl (q_tn (z := 877834265) rfl ?_)
        refine q_ist2n rfl rfl rfl rfl ?_
        refine q_icc3 (z := 17) rfl rfl rfl rfl rfl ?_
        refine q_goto rfl ?_
        refine q_iload_n rfl rfl rfl ?_
        refine q_bipush rfl rfl ?_
        refine q_icge rfl rfl (fun c365 => absurd c365 (by decide)) (fun c365 => ?_)
        refine q_bipush rfl rfl ?_
        refine q_iload_n rfl rfl rfl ?_
        refine q_imul rfl rfl (q_tn (z := 1443058439) rfl ?_)
        refine q_aload_n rfl rfl rfl ?_
        refine q_getf rfl rfl (by decide) rfl rfl ?_
        refine q_iload_n rfl rfl rfl ?_
        refine q_iald rfl rfl (by decide) rfl (by decide) (q_tn (z := 0) rfl ?_)
        refine q_iadd rfl rfl (q_tn (z := 1443058439) rfl ?_)
        refine q_ist2n rfl rfl rfl rfl ?_
        refine q_icc3 (z := 18) rfl rfl rfl rfl rfl ?_
        refine q_goto rfl ?_
        refine q_iload_n rfl rfl rfl ?_
        refine q_bipush rfl rfl ?_
        refine q_icge rfl rfl (fun c366 => absurd c366 (by decide)) (fun c366 => ?_)
        refine q_bipush rfl rfl ?_
        refine q_iload_n rfl rfl rfl ?_
        refine q_imul rfl rfl (q_tn (z := 1785138649) rfl ?_)
        refine q_aload_n rfl rfl rfl ?_
        refine q_getf rfl rfl (by decide) rfl rfl ?_
        refine q_iload_n rfl rfl rfl ?_
        refine q_iald rfl rfl (by decide) rfl (by decide) (q_tn (z := 0) rfl ?_)
        refine q_iadd rfl rfl (q_tn (z := 1785138649) rfl ?_)
        refine q_ist2n rfl rfl rfl rfl ?_
        refine q_icc3 (z := 19) rfl rfl rfl rfl rfl ?_
        refine q_goto rfl ?_
        refine q_iload_n rfl rfl rfl ?_
        refine q_bipush rfl rfl ?_
        refine q_icge rfl rfl (fun c367 => absurd c367 (by decide)) (fun c367 => ?_)
        refine q_bipush rfl rfl ?_
        refine q_iload_n rfl rfl rfl ?_
        refine q_imul rfl rfl (q_tn (z := (-495276729)) rfl ?_)
        refine q_aload_n rfl rfl rfl ?_
        refine q_getf rfl rfl (by decide) rfl rfl ?_
        refine q_iload_n rfl rfl rfl ?_
        refine q_iald rfl rfl (by decide) rfl (by decide) (q_tn (z := 0) rfl ?_)
        refine q_iadd rfl rfl (q_tn (z := (-495276729)) rfl ?_)
        refine q_ist2n rfl rfl rfl rfl ?_
        refine q_icc3 (z := 20) rfl rfl rfl rfl rfl ?_
        refine q_goto rfl ?_
        refine q_iload_n rfl rfl rfl ?_
        refine q_bipush rfl rfl ?_
        refine q_icge rfl rfl (fun c368 => ?_) (fun c368 => absurd (by decide) c368)
        refine q_sipush rfl rfl ?_
        refine q_iload_n rfl rfl rfl ?_
        refine q_imul rfl rfl (q_tn (z := 0) rfl ?_)
        refine q_iload_n rfl rfl rfl ?_
        refine q_iload_n rfl rfl rfl ?_
        refine q_bipush rfl rfl ?_
        refine q_iushr rfl rfl (q_tn (z := 463829) rfl ?_)
        refine q_ixor rfl rfl (q_tn (z := (-495075694)) rfl ?_)
        refine q_sipush rfl rfl ?_
        refine q_irem rfl rfl (by decide) (q_tn (z := (-366)) rfl ?_)
        refine q_iload_n rfl rfl rfl ?_
        refine q_iload_n rfl rfl rfl ?_
        refine q_bipush rfl rfl ?_
        refine q_iushr rfl rfl (q_tn (z := 463829) rfl ?_)
        refine q_ixor rfl rfl (q_tn (z := (-495075694)) rfl ?_)
        refine q_sipush rfl rfl ?_
        refine q_irem rfl rfl (by decide) (q_tn (z := (-366)) rfl ?_)
        refine q_ifge rfl rfl (fun c369 => absurd c369 (by decide)) (fun c369 => ?_)
        refine q_iconst rfl rfl ?_
        refine q_goto rfl ?_
        refine q_imul rfl rfl (q_tn (z := 366) rfl ?_)
        refine q_iadd rfl rfl (q_tn (z := 366) rfl ?_)
        refine q_iret rfl rfl trivial ?_
        refine ⟨_, rfl, ?_⟩
        refine q_ist6 rfl rfl rfl rfl ?_
        refine q_aload_n rfl rfl rfl ?_
        refine q_getf rfl rfl (by decide) rfl rfl ?_
        refine q_iload rfl rfl rfl ?_
        refine q_aload_n rfl rfl rfl ?_
        refine q_getf rfl rfl (by decide) rfl rfl ?_
        refine q_iload rfl rfl rfl ?_
        refine q_iald rfl rfl (by decide) rfl (by decide) (q_tn (z := (-1)) rfl ?_)
        refine q_iast rfl rfl (by decide) (FW_58 S hW) (by decide) ?_
        refine q_aload_n rfl rfl rfl ?_
        refine q_getf rfl rfl (by decide) rfl rfl ?_
        refine q_iload rfl rfl rfl ?_
        refine q_iload rfl rfl rfl ?_
        refine q_iast rfl rfl (by decide) rfl (by decide) ?_
        refine q_aload_n rfl rfl rfl ?_
        refine q_getf rfl rfl (by decide) rfl rfl ?_
        refine q_iload_n rfl rfl rfl ?_
        refine q_dup2 rfl rfl ?_
        refine q_iald rfl rfl (by decide) rfl (by decide) (q_tn (z := 0) rfl ?_)
        refine q_iconst rfl rfl ?_
        refine q_iadd rfl rfl (q_tn (z := 1) rfl ?_)
        refine q_iast rfl rfl (by decide) rfl (by decide) ?_
        refine q_iload rfl rfl rfl ?_
        refine q_iret rfl rfl trivial ?_
        refine ⟨_, rfl, ?_⟩
        refine q_ist3n rfl rfl rfl rfl ?_
        refine q_iconst rfl rfl ?_
        refine q_ist4 rfl rfl rfl rfl ?_
        refine q_iload rfl rfl rfl ?_
        refine q_aload_n rfl rfl rfl ?_
        refine q_getf rfl rfl (by decide) rfl rfl ?_
        refine q_iload_n rfl rfl rfl ?_
        refine q_iald rfl rfl (by decide) rfl (by decide) (q_tn (z := 1) rfl ?_)
        refine q_icge rfl rfl (fun c370 => absurd c370 (by decide)) (fun c370 => ?_)
        refine q_iconst rfl rfl ?_
        refine q_ist5 rfl rfl rfl rfl ?_
        refine q_iload rfl rfl rfl ?_
        refine q_iconst rfl rfl ?_
        refine q_icge rfl rfl (fun c371 => absurd c371 (by decide)) (fun c371 => ?_)
        refine q_iconst rfl rfl ?_
        refine q_sipush rfl rfl ?_
        refine q_iload_n rfl rfl rfl ?_
        refine q_imul rfl rfl (q_tn (z := 0) rfl ?_)
        refine q_iload rfl rfl rfl ?_
        refine q_iadd rfl rfl (q_tn (z := 0) rfl ?_)
        refine q_imul rfl rfl (q_tn (z := 0) rfl ?_)
        refine q_iload rfl rfl rfl ?_
        refine q_iadd rfl rfl (q_tn (z := 0) rfl ?_)
        refine q_ist6 rfl rfl rfl rfl ?_
        refine q_aload_n rfl rfl rfl ?_
        refine q_getf rfl rfl (by decide) rfl rfl ?_
        refine q_iload rfl rfl rfl ?_
        refine q_iconst rfl rfl ?_
        refine q_iast rfl rfl (by decide) (FW_59 S hW) (by decide) ?_
        refine q_aload_n rfl rfl rfl ?_
        refine q_iload_n rfl rfl rfl ?_
        refine q_iload rfl rfl rfl ?_
        refine q_cV2v rfl rfl (Or.inl rfl) rfl rfl rfl (by decide) rfl ⟨rfl, rfl⟩ rfl (fun K' hK' => l_sa (R := 0) (by decide) rfl (by decide) rfl rfl rfl rfl rfl hK') ?_
        refine q_iload rfl rfl rfl ?_
        refine q_aload_n rfl rfl rfl ?_
        refine q_getf rfl rfl (by decide) rfl rfl ?_
        refine q_icge rfl rfl (fun c372 => absurd c372 (by decide)) (fun c372 => ?_)
        refine q_aload_n rfl rfl rfl ?_
        refine q_iload rfl rfl rfl ?_
        refine q_iload_n rfl rfl rfl ?_
        refine q_nV2 rfl rfl (Or.inl rfl) rfl rfl rfl (by decide) rfl ⟨rfl, rfl⟩ rfl ?_
        change PQ _ _ _ mm_X12_maySteps 0 [.ref 46, .int 0, .int 0, pm_un, pm_un, pm_un] [] _ _ 0 0 _
        refine q_aload_n rfl rfl rfl ?_
        refine q_iload_n rfl rfl rfl ?_
        refine q_iload_n rfl rfl rfl ?_
        refine q_nV2 rfl rfl (Or.inl rfl) rfl rfl rfl (by decide) rfl ⟨rfl, rfl⟩ rfl ?_
        change PQ _ _ _ mm_X12_canStep 0 [.ref 46, .int 0, .int 0, pm_un] [] _ _ 0 0 _
        refine q_aload_n rfl rfl rfl ?_
        refine q_iload_n rfl rfl rfl ?_
        refine q_nV1 rfl rfl (Or.inl rfl) rfl rfl rfl (by decide) rfl ⟨rfl, rfl⟩ rfl ?_
        change PQ _ _ _ mm_X12_isOver 0 [.ref 46, .int 0] [] _ _ 0 0 _
        refine q_aload_n rfl rfl rfl ?_
        refine q_getf rfl rfl (by decide) rfl rfl ?_
        refine q_iconst rfl rfl ?_
        refine q_iload_n rfl rfl rfl ?_
        refine q_imul rfl rfl (q_tn (z := 0) rfl ?_)
        refine q_iald rfl rfl (by decide) rfl (by decide) (q_tn (z := 10) rfl ?_)
        refine q_bipush rfl rfl ?_
        refine q_iclt rfl rfl (fun c373 => absurd c373 (by decide)) (fun c373 => ?_)
        refine q_iconst rfl rfl ?_
        refine q_goto rfl ?_
        refine q_iret rfl rfl rfl ?_
        refine ⟨_, rfl, ?_⟩
        refine q_ifeq rfl rfl (fun c374 => absurd c374 (by decide)) (fun c374 => ?_)
        refine q_iconst rfl rfl ?_
        refine q_iret rfl rfl rfl ?_
        refine ⟨_, rfl, ?_⟩
        refine q_ifne rfl rfl (fun c375 => ?_) (fun c375 => absurd (by decide) c375)
        refine q_iconst rfl rfl ?_
        refine q_iret rfl rfl rfl ?_
        refine ⟨_, rfl, ?_⟩
        refine q_ifne rfl rfl (fun c376 => ?_) (fun c376 => absurd (by decide) c376)
        refine q_goto rfl ?_
        refine q_icc5 (z := 1) rfl rfl rfl rfl rfl ?_
        refine q_goto rfl ?_
        refine q_iload rfl rfl rfl ?_
        refine q_iconst rfl rfl ?_
        refine q_icge rfl rfl (fun c377 => absurd c377 (by decide)) (fun c377 => ?_)
        refine q_iconst rfl rfl ?_
        refine q_sipush rfl rfl ?_
        refine q_iload_n rfl rfl rfl ?_
        refine q_imul rfl rfl (q_tn (z := 0) rfl ?_)
        refine q_iload rfl rfl rfl ?_
        refine q_iadd rfl rfl (q_tn (z := 0) rfl ?_)
        refine q_imul rfl rfl (q_tn (z := 0) rfl ?_)
        refine q_iload rfl rfl rfl ?_
        refine q_iadd rfl rfl (q_tn (z := 1) rfl ?_)
        refine q_ist6 rfl rfl rfl rfl ?_
        refine q_aload_n rfl rfl rfl ?_
        refine q_getf rfl rfl (by decide) rfl rfl ?_
        refine q_iload rfl rfl rfl ?_
        refine q_iconst rfl rfl ?_
        refine q_iast rfl rfl (by decide) rfl (by decide) ?_
        refine q_aload_n rfl rfl rfl ?_
        refine q_iload_n rfl rfl rfl ?_
        refine q_iload rfl rfl rfl ?_
        refine q_cV2v rfl rfl (Or.inl rfl) rfl rfl rfl (by decide) rfl ⟨rfl, rfl⟩ rfl (fun K' hK' => l_sa (R := 0) (by decide) rfl (by decide) rfl rfl rfl rfl rfl hK') ?_
        refine q_iload rfl rfl rfl ?_
        refine q_aload_n rfl rfl rfl ?_
        refine q_getf rfl rfl (by decide) rfl rfl ?_
        refine q_icge rfl rfl (fun c378 => ?_) (fun c378 => absurd (by decide) c378)
        refine q_icc5 (z := 2) rfl rfl rfl rfl rfl ?_
        refine q_goto rfl ?_
        refine q_iload rfl rfl rfl ?_
        refine q_iconst rfl rfl ?_
        refine q_icge rfl rfl (fun c379 => absurd c379 (by decide)) (fun c379 => ?_)
        refine q_iconst rfl rfl ?_
        refine q_sipush rfl rfl ?_
        refine q_iload_n rfl rfl rfl ?_
        refine q_imul rfl rfl (q_tn (z := 0) rfl ?_)
        refine q_iload rfl rfl rfl ?_
        refine q_iadd rfl rfl (q_tn (z := 0) rfl ?_)
        refine q_imul rfl rfl (q_tn (z := 0) rfl ?_)
        refine q_iload rfl rfl rfl ?_
        refine q_iadd rfl rfl (q_tn (z := 2) rfl ?_)
        refine q_ist6 rfl rfl rfl rfl ?_
        refine q_aload_n rfl rfl rfl ?_
        refine q_getf rfl rfl (by decide) rfl rfl ?_
        refine q_iload rfl rfl rfl ?_
        refine q_iconst rfl rfl ?_
        refine q_iast rfl rfl (by decide) rfl (by decide) ?_
        refine q_aload_n rfl rfl rfl ?_
        refine q_iload_n rfl rfl rfl ?_
        refine q_iload rfl rfl rfl ?_
        refine q_cV2v rfl rfl (Or.inl rfl) rfl rfl rfl (by decide) rfl ⟨rfl, rfl⟩ rfl (fun K' hK' => l_sa (R := 0) (by decide) rfl (by decide) rfl rfl rfl rfl rfl hK') ?_
        refine q_iload rfl rfl rfl ?_
        refine q_aload_n rfl rfl rfl ?_
        refine q_getf rfl rfl (by decide) rfl rfl ?_
        refine q_icge rfl rfl (fun c380 => ?_) (fun c380 => absurd (by decide) c380)
        refine q_icc5 (z := 3) rfl rfl rfl rfl rfl ?_
        refine q_goto rfl ?_
        refine q_iload rfl rfl rfl ?_
        refine q_iconst rfl rfl ?_
        refine q_icge rfl rfl (fun c381 => ?_) (fun c381 => absurd (by decide) c381)
        refine q_icc4 (z := 1) rfl rfl rfl rfl rfl ?_
        refine q_goto rfl ?_
        refine q_iload rfl rfl rfl ?_
        refine q_aload_n rfl rfl rfl ?_
        refine q_getf rfl rfl (by decide) rfl rfl ?_
        refine q_iload_n rfl rfl rfl ?_
        refine q_iald rfl rfl (by decide) rfl (by decide) (q_tn (z := 1) rfl ?_)
        refine q_icge rfl rfl (fun c382 => ?_) (fun c382 => absurd (by decide) c382)
        refine q_iconst rfl rfl ?_
        refine q_iret rfl rfl rfl ?_
        refine ⟨_, rfl, ?_⟩
        refine q_ifeq rfl rfl (fun c383 => absurd c383 (by decide)) (fun c383 => ?_)
        refine q_iconst rfl rfl ?_
        refine q_goto rfl ?_
        refine q_iast rfl rfl (by decide) (FW_62 S hW) (by decide) ?_
        refine q_iload_n rfl rfl rfl ?_
        refine q_ifne rfl rfl (fun c384 => ?_) (fun c384 => absurd (by decide) c384)
        refine q_aload_n rfl rfl rfl ?_
        refine q_iconst rfl rfl ?_
        refine q_putf rfl rfl (by decide) rfl (by decide) rfl rfl ?_
        refine q_aload_n rfl rfl rfl ?_
        refine q_getf rfl rfl (by decide) rfl rfl ?_
        refine q_iload_n rfl rfl rfl ?_
        refine q_aload_n rfl rfl rfl ?_
        refine q_getf rfl rfl (by decide) rfl rfl ?_
        refine q_iload_n rfl rfl rfl ?_
        refine q_iald rfl rfl (by decide) rfl (by decide) (q_tn (z := 1) rfl ?_)
        refine q_iast rfl rfl (by decide) (FW_63 S hW) (by decide) ?_
        refine q_iconst rfl rfl ?_
        refine q_ist3n rfl rfl rfl rfl ?_
        refine q_iload_n rfl rfl rfl ?_
        refine q_iconst rfl rfl ?_
        refine q_icge rfl rfl (fun c385 => absurd c385 (by decide)) (fun c385 => ?_)
        refine q_aload_n rfl rfl rfl ?_
        refine q_getf rfl rfl (by decide) rfl rfl ?_
        refine q_iconst rfl rfl ?_
        refine q_iload_n rfl rfl rfl ?_
        refine q_imul rfl rfl (q_tn (z := 0) rfl ?_)
        refine q_iload_n rfl rfl rfl ?_
        refine q_iadd rfl rfl (q_tn (z := 0) rfl ?_)
        refine q_iconst rfl rfl ?_
        refine q_iast rfl rfl (by decide) (FW_64 S hW) (by decide) ?_
        refine q_icc3 (z := 1) rfl rfl rfl rfl rfl ?_
        refine q_goto rfl ?_
        refine q_iload_n rfl rfl rfl ?_
        refine q_iconst rfl rfl ?_
        refine q_icge rfl rfl (fun c386 => absurd c386 (by decide)) (fun c386 => ?_)
        refine q_aload_n rfl rfl rfl ?_
        refine q_getf rfl rfl (by decide) rfl rfl ?_
        refine q_iconst rfl rfl ?_
        refine q_iload_n rfl rfl rfl ?_
        refine q_imul rfl rfl (q_tn (z := 0) rfl ?_)
        refine q_iload_n rfl rfl rfl ?_
        refine q_iadd rfl rfl (q_tn (z := 1) rfl ?_)
        refine q_iconst rfl rfl ?_
        refine q_iast rfl rfl (by decide) rfl (by decide) ?_
        refine q_icc3 (z := 2) rfl rfl rfl rfl rfl ?_
        refine q_goto rfl ?_
        refine q_iload_n rfl rfl rfl ?_
        refine q_iconst rfl rfl ?_
        refine q_icge rfl rfl (fun c387 => absurd c387 (by decide)) (fun c387 => ?_)
        refine q_aload_n rfl rfl rfl ?_
        refine q_getf rfl rfl (by decide) rfl rfl ?_
        refine q_iconst rfl rfl ?_
        refine q_iload_n rfl rfl rfl ?_
        refine q_imul rfl rfl (q_tn (z := 0) rfl ?_)
        refine q_iload_n rfl rfl rfl ?_
        refine q_iadd rfl rfl (q_tn (z := 2) rfl ?_)
        refine q_iconst rfl rfl ?_
        refine q_iast rfl rfl (by decide) rfl (by decide) ?_
        refine q_icc3 (z := 3) rfl rfl rfl rfl rfl ?_
        refine q_goto rfl ?_
        refine q_iload_n rfl rfl rfl ?_
        refine q_iconst rfl rfl ?_
        refine q_icge rfl rfl (fun c388 => absurd c388 (by decide)) (fun c388 => ?_)
        refine q_aload_n rfl rfl rfl ?_
        refine q_getf rfl rfl (by decide) rfl rfl ?_
        refine q_iconst rfl rfl ?_
        refine q_iload_n rfl rfl rfl ?_
        refine q_imul rfl rfl (q_tn (z := 0) rfl ?_)
        refine q_iload_n rfl rfl rfl ?_
        refine q_iadd rfl rfl (q_tn (z := 3) rfl ?_)
        refine q_iconst rfl rfl ?_
        refine q_iast rfl rfl (by decide) rfl (by decide) ?_
        refine q_icc3 (z := 4) rfl rfl rfl rfl rfl ?_
        refine q_goto rfl ?_
        refine q_iload_n rfl rfl rfl ?_
        refine q_iconst rfl rfl ?_
        refine q_icge rfl rfl (fun c389 => ?_) (fun c389 => absurd (by decide) c389)
        refine q_iconst rfl rfl ?_
        refine q_ist3n rfl rfl rfl rfl ?_
        refine q_iload_n rfl rfl rfl ?_
        refine q_aload_n rfl rfl rfl ?_
        refine q_getf rfl rfl (by decide) rfl rfl ?_
        refine q_iload_n rfl rfl rfl ?_
        refine q_iald rfl rfl (by decide) rfl (by decide) (q_tn (z := 1) rfl ?_)
        refine q_icge rfl rfl (fun c390 => absurd c390 (by decide)) (fun c390 => ?_)
        refine q_aload_n rfl rfl rfl ?_
        refine q_iload_n rfl rfl rfl ?_
        refine q_iload_n rfl rfl rfl ?_
        refine q_cV2v rfl rfl (Or.inl rfl) rfl rfl rfl (by decide) rfl ⟨rfl, rfl⟩ rfl (fun K' hK' => l_sa (R := 0) (by decide) rfl (by decide) rfl rfl rfl rfl rfl hK') ?_
        refine q_aload_n rfl rfl rfl ?_
        refine q_nV0 rfl rfl (Or.inl rfl) rfl rfl rfl (by decide) rfl ⟨rfl, rfl⟩ rfl ?_
        change PQ _ _ _ mm_X12_isEnd 0 [.ref 46, pm_un, pm_un] [] _ _ 0 0 _
        refine q_iconst rfl rfl ?_
        refine q_ist1n rfl rfl rfl rfl ?_
        refine q_iconst rfl rfl ?_
        refine q_ist2n rfl rfl rfl rfl ?_
        refine q_iload_n rfl rfl rfl ?_
        refine q_aload_n rfl rfl rfl ?_
        refine q_getf rfl rfl (by decide) rfl rfl ?_
        refine q_icge rfl rfl (fun c391 => absurd c391 (by decide)) (fun c391 => ?_)
        refine q_iload_n rfl rfl rfl ?_
        refine q_ifeq rfl rfl (fun c392 => absurd c392 (by decide)) (fun c392 => ?_)
        refine q_aload_n rfl rfl rfl ?_
        refine q_iload_n rfl rfl rfl ?_
        refine q_nV1 rfl rfl (Or.inl rfl) rfl rfl rfl (by decide) rfl ⟨rfl, rfl⟩ rfl ?_
        change PQ _ _ _ mm_X12_isOver 0 [.ref 46, .int 0] [] _ _ 0 0 _
        refine q_aload_n rfl rfl rfl ?_
        refine q_getf rfl rfl (by decide) rfl rfl ?_
        refine q_iconst rfl rfl ?_
        refine q_iload_n rfl rfl rfl ?_
        refine q_imul rfl rfl (q_tn (z := 0) rfl ?_)
        refine q_iald rfl rfl (by decide) rfl (by decide) (q_tn (z := 10) rfl ?_)
        refine q_bipush rfl rfl ?_
        refine q_iclt rfl rfl (fun c393 => absurd c393 (by decide)) (fun c393 => ?_)
        refine q_iconst rfl rfl ?_
        refine q_goto rfl ?_
        refine q_iret rfl rfl rfl ?_
        refine ⟨_, rfl, ?_⟩
        refine q_ifeq rfl rfl (fun c394 => absurd c394 (by decide)) (fun c394 => ?_)
        refine q_iconst rfl rfl ?_
        refine q_goto rfl ?_
        refine q_ist1n rfl rfl rfl rfl ?_
        refine q_icc2 (z := 1) rfl rfl rfl rfl rfl ?_
        refine q_goto rfl ?_
        refine q_iload_n rfl rfl rfl ?_
        refine q_aload_n rfl rfl rfl ?_
        refine q_getf rfl rfl (by decide) rfl rfl ?_
        refine q_icge rfl rfl (fun c395 => ?_) (fun c395 => absurd (by decide) c395)
        refine q_iload_n rfl rfl rfl ?_
        refine q_iret rfl rfl rfl ?_
        refine ⟨_, rfl, ?_⟩
        refine q_ifne rfl rfl (fun c396 => absurd c396 (by decide)) (fun c396 => ?_)
        refine q_iconst rfl rfl ?_
        refine q_ist4 rfl rfl rfl rfl ?_
        refine q_iload rfl rfl rfl ?_
        refine q_iconst rfl rfl ?_
        refine q_icge rfl rfl (fun c397 => absurd c397 (by decide)) (fun c397 => ?_)
        refine q_aload_n rfl rfl rfl ?_
        refine q_getf rfl rfl (by decide) rfl rfl ?_
        refine q_iconst rfl rfl ?_
        refine q_iload_n rfl rfl rfl ?_
        refine q_imul rfl rfl (q_tn (z := 0) rfl ?_)
        refine q_iload rfl rfl rfl ?_
        refine q_iadd rfl rfl (q_tn (z := 0) rfl ?_)
        refine q_dup2 rfl rfl ?_
        refine q_iald rfl rfl (by decide) rfl (by decide) (q_tn (z := 0) rfl ?_)
        refine q_iconst rfl rfl ?_
        refine q_aload_n rfl rfl rfl ?_
        refine q_getf rfl rfl (by decide) rfl rfl ?_
        refine q_bipush rfl rfl ?_
        refine q_iload rfl rfl rfl ?_
        refine q_iadd rfl rfl (q_tn (z := 12) rfl ?_)
        refine q_iald rfl rfl (by decide) rfl (by decide) (q_tn (z := 0) rfl ?_)
        refine q_ishl rfl rfl (q_tn (z := 1) rfl ?_)
        refine q_ior rfl rfl (q_tn (z := 1) rfl ?_)
        refine q_iast rfl rfl (by decide) rfl (by decide) ?_
        refine q_icc4 (z := 1) rfl rfl rfl rfl rfl ?_
        refine q_goto rfl ?_
        refine q_iload rfl rfl rfl ?_
        refine q_iconst rfl rfl ?_
        refine q_icge rfl rfl (fun c398 => absurd c398 (by decide)) (fun c398 => ?_)
        refine q_aload_n rfl rfl rfl ?_
        refine q_getf rfl rfl (by decide) rfl rfl ?_
        refine q_iconst rfl rfl ?_
        refine q_iload_n rfl rfl rfl ?_
        refine q_imul rfl rfl (q_tn (z := 0) rfl ?_)
        refine q_iload rfl rfl rfl ?_
        refine q_iadd rfl rfl (q_tn (z := 1) rfl ?_)
        refine q_dup2 rfl rfl ?_
        refine q_iald rfl rfl (by decide) rfl (by decide) (q_tn (z := 0) rfl ?_)
        refine q_iconst rfl rfl ?_
        refine q_aload_n rfl rfl rfl ?_
        refine q_getf rfl rfl (by decide) rfl rfl ?_
        refine q_bipush rfl rfl ?_
        refine q_iload rfl rfl rfl ?_
        refine q_iadd rfl rfl (q_tn (z := 13) rfl ?_)
        refine q_iald rfl rfl (by decide) rfl (by decide) (q_tn (z := 0) rfl ?_)
        refine q_ishl rfl rfl (q_tn (z := 1) rfl ?_)
        refine q_ior rfl rfl (q_tn (z := 1) rfl ?_)
        refine q_iast rfl rfl (by decide) rfl (by decide) ?_
        refine q_icc4 (z := 2) rfl rfl rfl rfl rfl ?_
        refine q_goto rfl ?_
        refine q_iload rfl rfl rfl ?_
        refine q_iconst rfl rfl ?_
        refine q_icge rfl rfl (fun c399 => absurd c399 (by decide)) (fun c399 => ?_)
        refine q_aload_n rfl rfl rfl ?_
        refine q_getf rfl rfl (by decide) rfl rfl ?_
        refine q_iconst rfl rfl ?_
        refine q_iload_n rfl rfl rfl ?_
        refine q_imul rfl rfl (q_tn (z := 0) rfl ?_)
        refine q_iload rfl rfl rfl ?_
        refine q_iadd rfl rfl (q_tn (z := 2) rfl ?_)
        refine q_dup2 rfl rfl ?_
        refine q_iald rfl rfl (by decide) rfl (by decide) (q_tn (z := 0) rfl ?_)
        refine q_iconst rfl rfl ?_
        refine q_aload_n rfl rfl rfl ?_
        refine q_getf rfl rfl (by decide) rfl rfl ?_
        refine q_bipush rfl rfl ?_
        refine q_iload rfl rfl rfl ?_
        refine q_iadd rfl rfl (q_tn (z := 14) rfl ?_)
        refine q_iald rfl rfl (by decide) rfl (by decide) (q_tn (z := 0) rfl ?_)
        refine q_ishl rfl rfl (q_tn (z := 1) rfl ?_)
        refine q_ior rfl rfl (q_tn (z := 1) rfl ?_)
        refine q_iast rfl rfl (by decide) rfl (by decide) ?_
        refine q_icc4 (z := 3) rfl rfl rfl rfl rfl ?_
        refine q_goto rfl ?_
        refine q_iload rfl rfl rfl ?_
        refine q_iconst rfl rfl ?_
        refine q_icge rfl rfl (fun c400 => absurd c400 (by decide)) (fun c400 => ?_)
        refine q_aload_n rfl rfl rfl ?_
        refine q_getf rfl rfl (by decide) rfl rfl ?_
        refine q_iconst rfl rfl ?_
        refine q_iload_n rfl rfl rfl ?_
        refine q_imul rfl rfl (q_tn (z := 0) rfl ?_)
        refine q_iload rfl rfl rfl ?_
        refine q_iadd rfl rfl (q_tn (z := 3) rfl ?_)
        refine q_dup2 rfl rfl ?_
        refine q_iald rfl rfl (by decide) rfl (by decide) (q_tn (z := 0) rfl ?_)
        refine q_iconst rfl rfl ?_
        refine q_aload_n rfl rfl rfl ?_
        refine q_getf rfl rfl (by decide) rfl rfl ?_
        refine q_bipush rfl rfl ?_
        refine q_iload rfl rfl rfl ?_
        refine q_iadd rfl rfl (q_tn (z := 15) rfl ?_)
        refine q_iald rfl rfl (by decide) rfl (by decide) (q_tn (z := 0) rfl ?_)
        refine q_ishl rfl rfl (q_tn (z := 1) rfl ?_)
        refine q_ior rfl rfl (q_tn (z := 1) rfl ?_)
        refine q_iast rfl rfl (by decide) rfl (by decide) ?_
        refine q_icc4 (z := 4) rfl rfl rfl rfl rfl ?_
        refine q_goto rfl ?_
        refine q_iload rfl rfl rfl ?_
        refine q_iconst rfl rfl ?_
        refine q_icge rfl rfl (fun c401 => ?_) (fun c401 => absurd (by decide) c401)
        refine q_icc3 (z := 1) rfl rfl rfl rfl rfl ?_
        refine q_goto rfl ?_
        refine q_iload_n rfl rfl rfl ?_
        refine q_aload_n rfl rfl rfl ?_
        refine q_getf rfl rfl (by decide) rfl rfl ?_
        refine q_iload_n rfl rfl rfl ?_
        refine q_iald rfl rfl (by decide) rfl (by decide) (q_tn (z := 1) rfl ?_)
        refine q_icge rfl rfl (fun c402 => ?_) (fun c402 => absurd (by decide) c402)
        refine q_aload_n rfl rfl rfl ?_
        refine q_getf rfl rfl (by decide) rfl rfl ?_
        refine q_iload_n rfl rfl rfl ?_
        refine q_iald rfl rfl (by decide) rfl (by decide) (q_tn (z := 1) rfl ?_)
        refine q_iconst rfl rfl ?_
        refine q_icne rfl rfl (fun c403 => absurd c403 (by decide)) (fun c403 => ?_)
        refine q_iconst rfl rfl ?_
        refine q_iret rfl rfl rfl ?_
        refine ⟨_, rfl, ?_⟩
        refine q_ifeq rfl rfl (fun c404 => ?_) (fun c404 => absurd (by decide) c404)
        refine q_iload_n rfl rfl rfl ?_
        refine q_aload_n rfl rfl rfl ?_
        refine q_getf rfl rfl (by decide) rfl rfl ?_
        refine q_iconst rfl rfl ?_
        refine q_iald rfl rfl (by decide) rfl (by decide) (q_tn (z := 1) rfl ?_)
        refine q_iclt rfl rfl (fun c405 => absurd c405 (i_lt_f (i_nlt c68) rfl)) (fun c405 => ?_)
        refine q_iconst rfl rfl ?_
        refine q_goto rfl ?_
        refine q_iret rfl rfl trivial ?_
        refine ⟨_, rfl, ?_⟩
        refine q_ifeq rfl rfl (fun c406 => absurd c406 (by decide)) (fun c406 => ?_)
        refine q_aload_n rfl rfl rfl ?_
        refine q_iload_n rfl rfl rfl ?_
        refine q_nV1 rfl rfl (Or.inl rfl) rfl rfl rfl (by decide) rfl ⟨rfl, rfl⟩ rfl ?_
        change PQ _ _ _ mm_X12_lacks 0 [.ref 46, .int x1] [] _ _ 0 0 _
        refine q_iload_n rfl rfl rfl ?_
        refine q_ifge rfl rfl (fun c407 => ?_) (fun c407 => absurd (i_ge_t (i_nlt c68) rfl) c407)
        refine q_aload_n rfl rfl rfl ?_
        refine q_iconst rfl rfl ?_
        refine q_nV1 rfl rfl (Or.inl rfl) rfl rfl rfl (by decide) rfl ⟨rfl, rfl⟩ rfl ?_
        change PQ _ _ _ mm_X12_isSpent 0 [.ref 46, .int 0, pm_un, pm_un, pm_un] [] _ _ 0 0 _
        refine q_iload_n rfl rfl rfl ?_
        refine q_ifne rfl rfl (fun c408 => ?_) (fun c408 => absurd (by decide) c408)
        refine q_iconst rfl rfl ?_
        refine q_goto rfl ?_
        refine q_ist2n rfl rfl rfl rfl ?_
        refine q_aload_n rfl rfl rfl ?_
        refine q_iconst rfl rfl ?_
        refine q_putf rfl rfl (by decide) rfl (by decide) rfl trivial ?_
        refine q_aload_n rfl rfl rfl ?_
        refine q_getf rfl rfl (by decide) rfl rfl ?_
        refine q_iload_n rfl rfl rfl ?_
        refine q_iald rfl rfl (by decide) rfl (by decide) (q_tn (z := 1) rfl ?_)
        refine q_ifeq rfl rfl (fun c409 => absurd c409 (by decide)) (fun c409 => ?_)
        refine q_iload_n rfl rfl rfl ?_
        refine q_ifgt rfl rfl (fun c410 => absurd c410 (by decide)) (fun c410 => ?_)
        refine q_aload_n rfl rfl rfl ?_
        refine q_getf rfl rfl (by decide) rfl rfl ?_
        refine q_ifeq rfl rfl (fun c411 => absurd c411 (by decide)) (fun c411 => ?_)
        refine q_aload_n rfl rfl rfl ?_
        refine q_getf rfl rfl (by decide) rfl rfl ?_
        refine q_iload_n rfl rfl rfl ?_
        refine q_iald rfl rfl (by decide) rfl (by decide) (q_tn (z := 1) rfl ?_)
        refine q_iconst rfl rfl ?_
        refine q_icne rfl rfl (fun c412 => absurd c412 (by decide)) (fun c412 => ?_)
        refine q_iconst rfl rfl ?_
        refine q_iret rfl rfl rfl ?_
        refine ⟨_, rfl, ?_⟩
        refine q_ifeq rfl rfl (fun c413 => ?_) (fun c413 => absurd (by decide) c413)
        refine q_iload_n rfl rfl rfl ?_
        refine q_aload_n rfl rfl rfl ?_
        refine q_getf rfl rfl (by decide) rfl rfl ?_
        refine q_iconst rfl rfl ?_
        refine q_iald rfl rfl (by decide) rfl (by decide) (q_tn (z := 1) rfl ?_)
        refine q_iclt rfl rfl (fun c414 => absurd c414 (i_lt_f (i_nlt c68) rfl)) (fun c414 => ?_)
        refine q_iconst rfl rfl ?_
        refine q_goto rfl ?_
        refine q_iret rfl rfl trivial ?_
        refine ⟨_, rfl, ?_⟩
        refine q_iret rfl rfl trivial ?_
        refine ⟨_, rfl, ?_⟩
        refine q_iceq rfl rfl (fun c415 => ?_) (fun c415 => absurd (by decide) c415)
        refine q_icc4 (z := 6) rfl rfl rfl rfl rfl ?_
        refine q_goto rfl ?_
        refine q_iload rfl rfl rfl ?_
        refine q_aload_nF rfl rfl rfl ?_
        refine q_alenX (x := 6) rfl rfl rfl ?_
        refine q_bipush rfl rfl ?_
        refine q_isub rfl rfl (q_tn (z := 0) rfl ?_)
        refine q_icgt rfl rfl (fun c416 => ?_) (fun c416 => absurd (by decide) c416)
        refine q_iconst rfl rfl ?_
        refine q_iret rfl rfl rfl ?_
        exact hK _ _
  · refine q_iconst rfl rfl ?_
    refine q_iret rfl rfl trivial ?_
    refine ⟨_, rfl, ?_⟩
    refine q_ist2n rfl rfl rfl rfl ?_
    refine q_iload_n rfl rfl rfl ?_
    refine q_ifeq rfl rfl (fun c417 => absurd c417 (by decide)) (fun c417 => ?_)
    refine q_iload_n rfl rfl rfl ?_
    refine q_goto rfl ?_
    refine q_iret rfl rfl trivial ?_
    refine ⟨_, rfl, ?_⟩
    refine q_aload_n rfl rfl rfl ?_
    refine q_aload_nF rfl rfl rfl ?_
    refine q_iload rfl rfl rfl ?_
    refine q_iconst rfl rfl ?_
    refine q_iadd rfl rfl (q_tn (z := 1) rfl ?_)
    refine q_ialdX (x := x1) rfl rfl rfl hx1 ?_
    refine q_nV1 rfl rfl (Or.inl rfl) rfl rfl rfl (by decide) (FW_46 S hW) ⟨rfl, rfl⟩ rfl ?_
    change PQ _ _ _ mm_X12_lead 0 [.ref 46, .int x1] [] _ _ 0 0 _
    refine q_aload_n rfl rfl rfl ?_
    refine q_iload_n rfl rfl rfl ?_
    refine q_nV1 rfl rfl (Or.inl rfl) rfl rfl rfl (by decide) (FW_46 S hW) ⟨rfl, rfl⟩ rfl ?_
    change PQ _ _ _ mm_X12_lacks 0 [.ref 46, .int x1] [] _ _ 0 0 _
    refine q_iload_n rfl rfl rfl ?_
    refine q_ifge rfl rfl (fun c418 => absurd c418 (i_ge_f (i_ltle (i_nle c1) (B := (-1)) rfl) rfl)) (fun c418 => ?_)
    refine q_iconst rfl rfl ?_
    refine q_goto rfl ?_
    refine q_iret rfl rfl trivial ?_
    refine ⟨_, rfl, ?_⟩
    refine q_ifeq rfl rfl (fun c419 => absurd c419 (by decide)) (fun c419 => ?_)
    refine q_aload_n rfl rfl rfl ?_
    refine q_iload_n rfl rfl rfl ?_
    refine q_nV1 rfl rfl (Or.inl rfl) rfl rfl rfl (by decide) (FW_46 S hW) ⟨rfl, rfl⟩ rfl ?_
    change PQ _ _ _ mm_X12_lacks 0 [.ref 46, .int x1] [] _ _ 0 0 _
    refine q_iload_n rfl rfl rfl ?_
    refine q_ifge rfl rfl (fun c420 => absurd c420 (i_ge_f (i_ltle (i_nle c1) (B := (-1)) rfl) rfl)) (fun c420 => ?_)
    refine q_iconst rfl rfl ?_
    refine q_goto rfl ?_
    refine q_iret rfl rfl trivial ?_
    refine ⟨_, rfl, ?_⟩
    refine q_iret rfl rfl trivial ?_
    refine ⟨_, rfl, ?_⟩
    refine q_iceq rfl rfl (fun c421 => ?_) (fun c421 => absurd (by decide) c421)
    refine q_icc4 (z := 6) rfl rfl rfl rfl rfl ?_
    refine q_goto rfl ?_
    refine q_iload rfl rfl rfl ?_
    refine q_aload_nF rfl rfl rfl ?_
    refine q_alenX (x := 6) rfl rfl rfl ?_
    refine q_bipush rfl rfl ?_
    refine q_isub rfl rfl (q_tn (z := 0) rfl ?_)
    refine q_icgt rfl rfl (fun c422 => ?_) (fun c422 => absurd (by decide) c422)
    refine q_iconst rfl rfl ?_
    refine q_iret rfl rfl rfl ?_
    exact hK _ _
end TR
