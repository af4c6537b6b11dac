section TR
variable {EX : pm_M → pm_C → (pm_C → Prop) → Prop} {xs : Nat → Int32} {K : q_K}
set_option maxHeartbeats 40000000 in
set_option maxRecDepth 20000 in
theorem t_op8 {S : Nat → pm_E} (hW : FW S) {x1 x2 x3 x4 x5 : Int32} (hx1 : xs 1 = x1) (hx2 : xs 2 = x2) (hx3 : xs 3 = x3) (hx4 : xs 4 = x4) (hx5 : xs 5 = x5) (hK : ∀ S n, K (some (.int 1)) S n) : PQ (j_SL 6) (j_SV xs) EX mm_L_law 444 [.float 5, .ref 0, .ref 46, .ref 81, .int 0, pm_un, pm_un, pm_un] [] S 82 82 190091 K := by
  refine q_aload_n rfl rfl rfl ?_
  refine q_aload_nF rfl rfl rfl ?_
  refine q_iload rfl rfl rfl ?_
  refine q_iconst rfl rfl ?_
  refine q_iadd rfl rfl (q_tn (z := 1) rfl ?_)
  refine q_ialdX (x := x1) rfl rfl rfl hx1 ?_
  refine q_nV1 rfl rfl (Or.inl rfl) rfl rfl rfl (by decide) (FW_0 S hW) ⟨rfl, rfl⟩ rfl ?_
  change PQ _ _ _ mm_X11_states 0 [.ref 0, .int x1] [] _ _ 0 0 _
  refine q_iload_n rfl rfl rfl ?_
  refine q_iconst rfl rfl ?_
  refine q_nS2 rfl rfl (Or.inl rfl) rfl rfl ⟨rfl, rfl⟩ rfl ?_
  change PQ _ _ _ mm_X11_within 0 [.int x1, .int 5] [] _ _ 0 0 _
  refine q_iload_n rfl rfl rfl ?_
  refine q_iflt rfl rfl (fun c1 => ?_) (fun c1 => ?_)
  · refine q_iconst rfl rfl ?_
    refine q_iret rfl rfl rfl ?_
    refine ⟨_, rfl, ?_⟩
    refine q_ifeq rfl rfl (fun c2 => ?_) (fun c2 => absurd (by decide) c2)
    refine q_iconst rfl rfl ?_
    refine q_iret rfl rfl trivial ?_
    refine ⟨_, rfl, ?_⟩
    refine q_aload_n rfl rfl rfl ?_
    refine q_aload_nF rfl rfl rfl ?_
    refine q_iload rfl rfl rfl ?_
    refine q_iconst rfl rfl ?_
    refine q_iadd rfl rfl (q_tn (z := 1) rfl ?_)
    refine q_ialdX (x := x1) rfl rfl rfl hx1 ?_
    refine q_nV1 rfl rfl (Or.inl rfl) rfl rfl rfl (by decide) (FW_46 S hW) ⟨rfl, rfl⟩ rfl ?_
    change PQ _ _ _ mm_X12_states 0 [.ref 46, .int x1] [] _ _ 0 0 _
    refine q_aload_n rfl rfl rfl ?_
    refine q_iload_n rfl rfl rfl ?_
    refine q_iconst rfl rfl ?_
    refine q_iconst rfl rfl ?_
    refine q_nV3 rfl rfl (Or.inl rfl) rfl rfl rfl (by decide) (FW_46 S hW) ⟨rfl, rfl⟩ rfl ?_
    change PQ _ _ _ mm_X12_in 0 [.ref 46, .int x1, .int 0, .int 4] [] _ _ 0 0 _
    refine q_iload_n rfl rfl rfl ?_
    refine q_iload_n rfl rfl rfl ?_
    refine q_iclt rfl rfl (fun c3 => ?_) (fun c3 => absurd (i_lt_t (i_ltle c1 (B := (-1)) rfl) rfl) c3)
    refine q_iconst rfl rfl ?_
    refine q_iret rfl rfl rfl ?_
    refine ⟨_, rfl, ?_⟩
    refine q_ifne rfl rfl (fun c4 => ?_) (fun c4 => absurd (by decide) c4)
    refine q_iconst rfl rfl ?_
    refine q_iret rfl rfl trivial ?_
    refine ⟨_, rfl, ?_⟩
    refine q_iceq rfl rfl (fun c5 => ?_) (fun c5 => absurd (by decide) c5)
    refine q_icc4 (z := 6) rfl rfl rfl rfl rfl ?_
    refine q_goto rfl ?_
    refine q_iload rfl rfl rfl ?_
    refine q_aload_nF rfl rfl rfl ?_
    refine q_alenX (x := 6) rfl rfl rfl ?_
    refine q_bipush rfl rfl ?_
    refine q_isub rfl rfl (q_tn (z := 0) rfl ?_)
    refine q_icgt rfl rfl (fun c6 => ?_) (fun c6 => absurd (by decide) c6)
    refine q_iconst rfl rfl ?_
    refine q_iret rfl rfl rfl ?_
    exact hK _ _
  · refine q_iload_n rfl rfl rfl ?_
    refine q_iload_n rfl rfl rfl ?_
    refine q_icge rfl rfl (fun c7 => ?_) (fun c7 => ?_)
    · refine q_iconst rfl rfl ?_
      refine q_iret rfl rfl rfl ?_
      refine ⟨_, rfl, ?_⟩
      refine q_ifeq rfl rfl (fun c8 => ?_) (fun c8 => absurd (by decide) c8)
      refine q_iconst rfl rfl ?_
      refine q_iret rfl rfl trivial ?_
      refine ⟨_, rfl, ?_⟩
      refine q_aload_n rfl rfl rfl ?_
      refine q_aload_nF rfl rfl rfl ?_
      refine q_iload rfl rfl rfl ?_
      refine q_iconst rfl rfl ?_
      refine q_iadd rfl rfl (q_tn (z := 1) rfl ?_)
      refine q_ialdX (x := x1) rfl rfl rfl hx1 ?_
      refine q_nV1 rfl rfl (Or.inl rfl) rfl rfl rfl (by decide) (FW_46 S hW) ⟨rfl, rfl⟩ rfl ?_
      change PQ _ _ _ mm_X12_states 0 [.ref 46, .int x1] [] _ _ 0 0 _
      refine q_aload_n rfl rfl rfl ?_
      refine q_iload_n rfl rfl rfl ?_
      refine q_iconst rfl rfl ?_
      refine q_iconst rfl rfl ?_
      refine q_nV3 rfl rfl (Or.inl rfl) rfl rfl rfl (by decide) (FW_46 S hW) ⟨rfl, rfl⟩ rfl ?_
      change PQ _ _ _ mm_X12_in 0 [.ref 46, .int x1, .int 0, .int 4] [] _ _ 0 0 _
      refine q_iload_n rfl rfl rfl ?_
      refine q_iload_n rfl rfl rfl ?_
      refine q_iclt rfl rfl (fun c9 => absurd c9 (i_lt_f c7 rfl)) (fun c9 => ?_)
      refine q_iload_n rfl rfl rfl ?_
      refine q_iload_n rfl rfl rfl ?_
      refine q_icgt rfl rfl (fun c10 => ?_) (fun c10 => absurd (i_gt_t c7 rfl) c10)
      refine q_iconst rfl rfl ?_
      refine q_iret rfl rfl rfl ?_
      refine ⟨_, rfl, ?_⟩
      refine q_ifne rfl rfl (fun c11 => ?_) (fun c11 => absurd (by decide) c11)
      refine q_iconst rfl rfl ?_
      refine q_iret rfl rfl trivial ?_
      refine ⟨_, rfl, ?_⟩
      refine q_iceq rfl rfl (fun c12 => ?_) (fun c12 => absurd (by decide) c12)
      refine q_icc4 (z := 6) rfl rfl rfl rfl rfl ?_
      refine q_goto rfl ?_
      refine q_iload rfl rfl rfl ?_
      refine q_aload_nF rfl rfl rfl ?_
      refine q_alenX (x := 6) rfl rfl rfl ?_
      refine q_bipush rfl rfl ?_
      refine q_isub rfl rfl (q_tn (z := 0) rfl ?_)
      refine q_icgt rfl rfl (fun c13 => ?_) (fun c13 => absurd (by decide) c13)
      refine q_iconst rfl rfl ?_
      refine q_iret rfl rfl rfl ?_
      exact hK _ _
    · refine q_iconst rfl rfl ?_
      refine q_goto rfl ?_
      refine q_iret rfl rfl rfl ?_
      refine ⟨_, rfl, ?_⟩
      refine q_ifeq rfl rfl (fun c14 => absurd c14 (by decide)) (fun c14 => ?_)
      refine q_aload_n rfl rfl rfl ?_
      refine q_iload_n rfl rfl rfl ?_
      refine q_nV1 rfl rfl (Or.inl rfl) rfl rfl rfl (by decide) (FW_0 S hW) ⟨rfl, rfl⟩ rfl ?_
      change PQ _ _ _ mm_X11_sizeOf 0 [.ref 0, .int x1, pm_un] [] _ _ 0 0 _
      refine q_aload_n rfl rfl rfl ?_
      refine q_getf rfl rfl (by decide) (FW_0 S hW) rfl ?_
      refine q_iload_n rfl rfl rfl ?_
      refine q_iald rfl rfl (by decide) (FW_44 S hW) (i_in (i_nlt c1) (i_ltle (i_nle c7) (B := 4) rfl) rfl) (q_tn (z := 0) rfl ?_)
      refine q_ifne rfl rfl (fun c15 => ?_) (fun c15 => absurd (by decide) c15)
      refine q_iload_n rfl rfl rfl ?_
      refine q_ifne rfl rfl (fun c16 => ?_) (fun c16 => ?_)
      · subst c16
        refine q_aload_n rfl rfl rfl ?_
        refine q_getf rfl rfl (by decide) (FW_0 S hW) rfl ?_
        refine q_goto rfl ?_
        refine q_ast2n rfl rfl rfl rfl ?_
        refine q_aload_n rfl rfl rfl ?_
        refine q_getf rfl rfl (by decide) (FW_0 S hW) rfl ?_
        refine q_iload_n rfl rfl rfl ?_
        refine q_putf rfl rfl (by decide) (FW_7 S hW) (by decide) rfl trivial ?_
        refine q_aload_n rfl rfl rfl ?_
        refine q_aload_n rfl rfl rfl ?_
        refine q_getf rfl rfl (by decide) (FW_0 S hW) rfl ?_
        refine q_iconst rfl rfl ?_
        refine q_nV2v rfl rfl (Or.inl rfl) rfl rfl rfl (by decide) (FW_8 S hW) ⟨rfl, rfl⟩ rfl ?_
        change PQ _ _ _ mm_X7_explore 0 [.ref 8, .ref 7, .int 0, pm_un] [] _ _ 0 0 _
        refine q_aload_n rfl rfl rfl ?_
        refine q_nV0v rfl rfl (Or.inl rfl) rfl rfl rfl (by decide) (FW_8 S hW) ⟨rfl, rfl⟩ rfl ?_
        change PQ _ _ _ mm_X7_clear 0 [.ref 8, pm_un] [] _ _ 0 0 _
        refine q_iconst rfl rfl ?_
        refine q_ist1n rfl rfl rfl rfl ?_
        refine q_iload_n rfl rfl rfl ?_
        refine q_aload_n rfl rfl rfl ?_
        refine q_getf rfl rfl (by decide) (FW_8 S hW) rfl ?_
        refine q_icge rfl rfl (fun c17 => ?_) (fun c17 => absurd (by decide) c17)
        refine q_aload_n rfl rfl rfl ?_
        refine q_iconst rfl rfl ?_
        refine q_putf rfl rfl (by decide) (FW_8 S hW) (by decide) rfl trivial ?_
        refine q_aload_n rfl rfl rfl ?_
        refine q_iconst rfl rfl ?_
        refine q_putf rfl rfl (by decide) rfl (by decide) rfl rfl ?_
        refine q_aload_n rfl rfl rfl ?_
        refine q_iconst rfl rfl ?_
        refine q_putf rfl rfl (by decide) rfl (by decide) rfl rfl ?_
        refine q_aload_n rfl rfl rfl ?_
        refine q_lconst rfl rfl ?_
        refine q_putf rfl rfl (by decide) rfl (by decide) rfl trivial ?_
        refine q_ret rfl rfl ?_
        refine ⟨rfl, ?_⟩
        refine q_aload_n rfl rfl rfl ?_
        refine q_aload_n rfl rfl rfl ?_
        refine q_nV0 rfl rfl (Or.inl rfl) rfl rfl rfl (by decide) rfl ⟨rfl, rfl⟩ rfl ?_
        change PQ _ _ _ mm_X6_first 0 [.ref 7, pm_un, pm_un, pm_un] [] _ _ 0 0 _
        refine q_lconst rfl rfl ?_
        refine q_lst1n rfl rfl rfl rfl ?_
        refine q_iconst rfl rfl ?_
        refine q_ist3n rfl rfl rfl rfl ?_
        refine q_iload_n rfl rfl rfl ?_
        refine q_iconst rfl rfl ?_
        refine q_icge rfl rfl (fun c18 => absurd c18 (by decide)) (fun c18 => ?_)
        refine q_lload_n rfl rfl rfl ?_
        refine q_iload_n rfl rfl rfl ?_
        refine q_aload_n rfl rfl rfl ?_
        refine q_getf rfl rfl (by decide) rfl rfl ?_
        refine q_getf rfl rfl (by decide) (FW_1 S hW) rfl ?_
        refine q_iload_n rfl rfl rfl ?_
        refine q_iald rfl rfl (by decide) (FW_2 S hW) (by decide) (q_tn (z := 0) rfl ?_)
        refine q_nS3 rfl rfl (Or.inl rfl) rfl rfl ⟨rfl, rfl⟩ rfl ?_
        change PQ _ _ _ mm_X0_withPlace 0 [.long 0, pm_un, .int 0, .int 0, pm_un] [] _ _ 0 0 _
        refine q_bipush rfl rfl ?_
        refine q_iconst rfl rfl ?_
        refine q_iload_n rfl rfl rfl ?_
        refine q_imul rfl rfl (q_tn (z := 0) rfl ?_)
        refine q_iadd rfl rfl (q_tn (z := 36) rfl ?_)
        refine q_ist4 rfl rfl rfl rfl ?_
        refine q_lload_n rfl rfl rfl ?_
        refine q_ldc2 rfl rfl ?_
        refine q_iload rfl rfl rfl ?_
        refine q_lshl rfl rfl (q_tnl (z := 1030792151040) rfl ?_)
        refine q_ldc2 rfl rfl ?_
        refine q_lxor rfl rfl (q_tnl (z := (-1030792151041)) rfl ?_)
        refine q_land rfl rfl (q_tnl (z := 0) rfl ?_)
        refine q_iload_n rfl rfl rfl ?_
        refine q_i2l rfl rfl (q_tnl (z := 0) rfl ?_)
        refine q_iload rfl rfl rfl ?_
        refine q_lshl rfl rfl (q_tnl (z := 0) rfl ?_)
        refine q_lor rfl rfl (q_tnl (z := 0) rfl ?_)
        refine q_lret rfl rfl trivial ?_
        refine ⟨_, rfl, ?_⟩
        refine q_lst1n rfl rfl rfl rfl ?_
        refine q_icc3 (z := 1) rfl rfl rfl rfl rfl ?_
        refine q_goto rfl ?_
        refine q_iload_n rfl rfl rfl ?_
        refine q_iconst rfl rfl ?_
        refine q_icge rfl rfl (fun c19 => absurd c19 (by decide)) (fun c19 => ?_)
        refine q_lload_n rfl rfl rfl ?_
        refine q_iload_n rfl rfl rfl ?_
        refine q_aload_n rfl rfl rfl ?_
        refine q_getf rfl rfl (by decide) rfl rfl ?_
        refine q_getf rfl rfl (by decide) (FW_1 S hW) rfl ?_
        refine q_iload_n rfl rfl rfl ?_
        refine q_iald rfl rfl (by decide) (FW_2 S hW) (by decide) (q_tn (z := 0) rfl ?_)
        refine q_nS3 rfl rfl (Or.inl rfl) rfl rfl ⟨rfl, rfl⟩ rfl ?_
        change PQ _ _ _ mm_X0_withPlace 0 [.long 0, pm_un, .int 1, .int 0, pm_un] [] _ _ 0 0 _
        refine q_bipush rfl rfl ?_
        refine q_iconst rfl rfl ?_
        refine q_iload_n rfl rfl rfl ?_
        refine q_imul rfl rfl (q_tn (z := 4) rfl ?_)
        refine q_iadd rfl rfl (q_tn (z := 40) rfl ?_)
        refine q_ist4 rfl rfl rfl rfl ?_
        refine q_lload_n rfl rfl rfl ?_
        refine q_ldc2 rfl rfl ?_
        refine q_iload rfl rfl rfl ?_
        refine q_lshl rfl rfl (q_tnl (z := 16492674416640) rfl ?_)
        refine q_ldc2 rfl rfl ?_
        refine q_lxor rfl rfl (q_tnl (z := (-16492674416641)) rfl ?_)
        refine q_land rfl rfl (q_tnl (z := 0) rfl ?_)
        refine q_iload_n rfl rfl rfl ?_
        refine q_i2l rfl rfl (q_tnl (z := 0) rfl ?_)
        refine q_iload rfl rfl rfl ?_
        refine q_lshl rfl rfl (q_tnl (z := 0) rfl ?_)
        refine q_lor rfl rfl (q_tnl (z := 0) rfl ?_)
        refine q_lret rfl rfl trivial ?_
        refine ⟨_, rfl, ?_⟩
        refine q_lst1n rfl rfl rfl rfl ?_
        refine q_icc3 (z := 2) rfl rfl rfl rfl rfl ?_
        refine q_goto rfl ?_
        refine q_iload_n rfl rfl rfl ?_
        refine q_iconst rfl rfl ?_
        refine q_icge rfl rfl (fun c20 => absurd c20 (by decide)) (fun c20 => ?_)
        refine q_lload_n rfl rfl rfl ?_
        refine q_iload_n rfl rfl rfl ?_
        refine q_aload_n rfl rfl rfl ?_
        refine q_getf rfl rfl (by decide) rfl rfl ?_
        refine q_getf rfl rfl (by decide) (FW_1 S hW) rfl ?_
        refine q_iload_n rfl rfl rfl ?_
        refine q_iald rfl rfl (by decide) (FW_2 S hW) (by decide) (q_tn (z := 0) rfl ?_)
        refine q_nS3 rfl rfl (Or.inl rfl) rfl rfl ⟨rfl, rfl⟩ rfl ?_
        change PQ _ _ _ mm_X0_withPlace 0 [.long 0, pm_un, .int 2, .int 0, pm_un] [] _ _ 0 0 _
        refine q_bipush rfl rfl ?_
        refine q_iconst rfl rfl ?_
        refine q_iload_n rfl rfl rfl ?_
        refine q_imul rfl rfl (q_tn (z := 8) rfl ?_)
        refine q_iadd rfl rfl (q_tn (z := 44) rfl ?_)
        refine q_ist4 rfl rfl rfl rfl ?_
        refine q_lload_n rfl rfl rfl ?_
        refine q_ldc2 rfl rfl ?_
        refine q_iload rfl rfl rfl ?_
        refine q_lshl rfl rfl (q_tnl (z := 263882790666240) rfl ?_)
        refine q_ldc2 rfl rfl ?_
        refine q_lxor rfl rfl (q_tnl (z := (-263882790666241)) rfl ?_)
        refine q_land rfl rfl (q_tnl (z := 0) rfl ?_)
        refine q_iload_n rfl rfl rfl ?_
        refine q_i2l rfl rfl (q_tnl (z := 0) rfl ?_)
        refine q_iload rfl rfl rfl ?_
        refine q_lshl rfl rfl (q_tnl (z := 0) rfl ?_)
        refine q_lor rfl rfl (q_tnl (z := 0) rfl ?_)
        refine q_lret rfl rfl trivial ?_
        refine ⟨_, rfl, ?_⟩
        refine q_lst1n rfl rfl rfl rfl ?_
        refine q_icc3 (z := 3) rfl rfl rfl rfl rfl ?_
        refine q_goto rfl ?_
        refine q_iload_n rfl rfl rfl ?_
        refine q_iconst rfl rfl ?_
        refine q_icge rfl rfl (fun c21 => absurd c21 (by decide)) (fun c21 => ?_)
        refine q_lload_n rfl rfl rfl ?_
        refine q_iload_n rfl rfl rfl ?_
        refine q_aload_n rfl rfl rfl ?_
        refine q_getf rfl rfl (by decide) rfl rfl ?_
        refine q_getf rfl rfl (by decide) (FW_1 S hW) rfl ?_
        refine q_iload_n rfl rfl rfl ?_
        refine q_iald rfl rfl (by decide) (FW_2 S hW) (by decide) (q_tn (z := 0) rfl ?_)
        refine q_nS3 rfl rfl (Or.inl rfl) rfl rfl ⟨rfl, rfl⟩ rfl ?_
        change PQ _ _ _ mm_X0_withPlace 0 [.long 0, pm_un, .int 3, .int 0, pm_un] [] _ _ 0 0 _
        refine q_bipush rfl rfl ?_
        refine q_iconst rfl rfl ?_
        refine q_iload_n rfl rfl rfl ?_
        refine q_imul rfl rfl (q_tn (z := 12) rfl ?_)
        refine q_iadd rfl rfl (q_tn (z := 48) rfl ?_)
        refine q_ist4 rfl rfl rfl rfl ?_
        refine q_lload_n rfl rfl rfl ?_
        refine q_ldc2 rfl rfl ?_
        refine q_iload rfl rfl rfl ?_
        refine q_lshl rfl rfl (q_tnl (z := 4222124650659840) rfl ?_)
        refine q_ldc2 rfl rfl ?_
        refine q_lxor rfl rfl (q_tnl (z := (-4222124650659841)) rfl ?_)
        refine q_land rfl rfl (q_tnl (z := 0) rfl ?_)
        refine q_iload_n rfl rfl rfl ?_
        refine q_i2l rfl rfl (q_tnl (z := 0) rfl ?_)
        refine q_iload rfl rfl rfl ?_
        refine q_lshl rfl rfl (q_tnl (z := 0) rfl ?_)
        refine q_lor rfl rfl (q_tnl (z := 0) rfl ?_)
        refine q_lret rfl rfl trivial ?_
        refine ⟨_, rfl, ?_⟩
        refine q_lst1n rfl rfl rfl rfl ?_
        refine q_icc3 (z := 4) rfl rfl rfl rfl rfl ?_
        refine q_goto rfl ?_
        refine q_iload_n rfl rfl rfl ?_
        refine q_iconst rfl rfl ?_
        refine q_icge rfl rfl (fun c22 => ?_) (fun c22 => absurd (by decide) c22)
        refine q_lload_n rfl rfl rfl ?_
        refine q_lret rfl rfl trivial ?_
        refine ⟨_, rfl, ?_⟩
        refine q_iconst rfl rfl ?_
        refine q_iconst rfl rfl ?_
        refine q_nV3 rfl rfl (Or.inl rfl) rfl rfl rfl (by decide) rfl ⟨rfl, rfl⟩ rfl ?_
        change PQ _ _ _ mm_X7_numberOf 0 [.ref 8, .long 0, pm_un, .int (-1), .int (-1), pm_un, pm_un, pm_un] [] _ _ 0 0 _
        refine q_lload_n rfl rfl rfl ?_
        refine q_ldc2 rfl rfl ?_
        refine q_lmul rfl rfl (q_tnl (z := 0) rfl ?_)
        refine q_bipush rfl rfl ?_
        refine q_lushr rfl rfl (q_tnl (z := 0) rfl ?_)
        refine q_l2i rfl rfl (q_tn (z := 0) rfl ?_)
        refine q_sipush rfl rfl ?_
        refine q_iand rfl rfl (q_tn (z := 0) rfl ?_)
        refine q_ist5 rfl rfl rfl rfl ?_
        refine q_iconst rfl rfl ?_
        refine q_ist6 rfl rfl rfl rfl ?_
        refine q_iload rfl rfl rfl ?_
        refine q_sipush rfl rfl ?_
        refine q_icge rfl rfl (fun c23 => absurd c23 (by decide)) (fun c23 => ?_)
        refine q_aload_n rfl rfl rfl ?_
        refine q_getf rfl rfl (by decide) rfl rfl ?_
        refine q_iload rfl rfl rfl ?_
        refine q_iald rfl rfl (by decide) (FW_14 S hW) (by decide) (q_tn (z := 0) rfl ?_)
        refine q_iconst rfl rfl ?_
        refine q_isub rfl rfl (q_tn (z := (-1)) rfl ?_)
        refine q_ist7 rfl rfl rfl rfl ?_
        refine q_iload rfl rfl rfl ?_
        refine q_ifge rfl rfl (fun c24 => absurd c24 (by decide)) (fun c24 => ?_)
        refine q_aload_n rfl rfl rfl ?_
        refine q_lload_n rfl rfl rfl ?_
        refine q_iload rfl rfl rfl ?_
        refine q_iload_n rfl rfl rfl ?_
        refine q_iload rfl rfl rfl ?_
        refine q_nV4 rfl rfl (Or.inl rfl) rfl rfl rfl (by decide) rfl ⟨rfl, rfl⟩ rfl ?_
        change PQ _ _ _ mm_X7_newNumber 0 [.ref 8, .long 0, pm_un, .int 0, .int (-1), .int (-1), pm_un] [] _ _ 0 0 _
        refine q_aload_n rfl rfl rfl ?_
        refine q_getf rfl rfl (by decide) rfl rfl ?_
        refine q_sipush rfl rfl ?_
        refine q_iclt rfl rfl (fun c25 => ?_) (fun c25 => absurd (by decide) c25)
        refine q_aload_n rfl rfl rfl ?_
        refine q_dupr rfl rfl ?_
        refine q_getf rfl rfl (by decide) rfl rfl ?_
        refine q_dupx1 rfl rfl ?_
        refine q_iconst rfl rfl ?_
        refine q_iadd rfl rfl (q_tn (z := 1) rfl ?_)
        refine q_putf rfl rfl (by decide) rfl (by decide) rfl trivial ?_
        refine q_ist6 rfl rfl rfl rfl ?_
        refine q_aload_n rfl rfl rfl ?_
        refine q_getf rfl rfl (by decide) rfl rfl ?_
        refine q_iload rfl rfl rfl ?_
        refine q_lload_n rfl rfl rfl ?_
        refine q_last rfl rfl (by decide) (FW_9 S hW) (by decide) ?_
        refine q_aload_n rfl rfl rfl ?_
        refine q_getf rfl rfl (by decide) rfl rfl ?_
        refine q_iload rfl rfl rfl ?_
        refine q_iload rfl rfl rfl ?_
        refine q_iast rfl rfl (by decide) (FW_10 S hW) (by decide) ?_
        refine q_aload_n rfl rfl rfl ?_
        refine q_getf rfl rfl (by decide) rfl rfl ?_
        refine q_iload rfl rfl rfl ?_
        refine q_iload rfl rfl rfl ?_
        refine q_iast rfl rfl (by decide) (FW_11 S hW) (by decide) ?_
        refine q_aload_n rfl rfl rfl ?_
        refine q_getf rfl rfl (by decide) rfl rfl ?_
        refine q_iload rfl rfl rfl ?_
        refine q_iload_n rfl rfl rfl ?_
        refine q_iast rfl rfl (by decide) (FW_15 S hW) (by decide) ?_
        refine q_aload_n rfl rfl rfl ?_
        refine q_getf rfl rfl (by decide) rfl rfl ?_
        refine q_iload_n rfl rfl rfl ?_
        refine q_iload rfl rfl rfl ?_
        refine q_iconst rfl rfl ?_
        refine q_iadd rfl rfl (q_tn (z := 1) rfl ?_)
        refine q_iast rfl rfl (by decide) (FW_14 S hW) (by decide) ?_
        refine q_iload rfl rfl rfl ?_
        refine q_iret rfl rfl trivial ?_
        refine ⟨_, rfl, ?_⟩
        refine q_iret rfl rfl trivial ?_
        refine ⟨_, rfl, ?_⟩
        refine q_pop rfl rfl ?_
        refine q_iconst rfl rfl ?_
        refine q_ist3n rfl rfl rfl rfl ?_
        refine q_iload_n rfl rfl rfl ?_
        refine q_sipush rfl rfl ?_
        refine q_icge rfl rfl (fun c26 => absurd c26 (by decide)) (fun c26 => ?_)
        refine q_iload_n rfl rfl rfl ?_
        refine q_aload_n rfl rfl rfl ?_
        refine q_getf rfl rfl (by decide) rfl rfl ?_
        refine q_icge rfl rfl (fun c27 => absurd c27 (by decide)) (fun c27 => ?_)
        refine q_aload_n rfl rfl rfl ?_
        refine q_aload_n rfl rfl rfl ?_
        refine q_iload_n rfl rfl rfl ?_
        refine q_nV2v rfl rfl (Or.inl rfl) rfl rfl rfl (by decide) rfl ⟨rfl, rfl⟩ rfl ?_
        change PQ _ _ _ mm_X7_lookAt 0 [.ref 8, .ref 7, .int 0, pm_un, pm_un, pm_un, pm_un, pm_un, pm_un, pm_un] [] _ _ 0 0 _
        refine q_aload_n rfl rfl rfl ?_
        refine q_getf rfl rfl (by decide) rfl rfl ?_
        refine q_iload_n rfl rfl rfl ?_
        refine q_lald rfl rfl (by decide) rfl (by decide) (q_tnl (z := 0) rfl ?_)
        refine q_lst3n rfl rfl rfl rfl ?_
        refine q_aload_n rfl rfl rfl ?_
        refine q_aload_n rfl rfl rfl ?_
        refine q_lload_n rfl rfl rfl ?_
        refine q_nV1 rfl rfl (Or.inl rfl) rfl rfl rfl (by decide) rfl ⟨rfl, rfl⟩ rfl ?_
        change PQ _ _ _ mm_X6_ableHands 0 [.ref 7, .long 0, pm_un, pm_un, pm_un, pm_un] [] _ _ 0 0 _
        refine q_aload_n rfl rfl rfl ?_
        refine q_lload_n rfl rfl rfl ?_
        refine q_nV1 rfl rfl (Or.inl rfl) rfl rfl rfl (by decide) rfl ⟨rfl, rfl⟩ rfl ?_
        change PQ _ _ _ mm_X6_allMeet 0 [.ref 7, .long 0, pm_un, pm_un, pm_un] [] _ _ 0 0 _
        refine q_iconst rfl rfl ?_
        refine q_ist3n rfl rfl rfl rfl ?_
        refine q_iload_n rfl rfl rfl ?_
        refine q_aload_n rfl rfl rfl ?_
        refine q_getf rfl rfl (by decide) rfl rfl ?_
        refine q_getf rfl rfl (by decide) (FW_1 S hW) rfl ?_
        refine q_icge rfl rfl (fun c28 => absurd c28 (by decide)) (fun c28 => ?_)
        refine q_aload_n rfl rfl rfl ?_
        refine q_getf rfl rfl (by decide) rfl rfl ?_
        refine q_iload_n rfl rfl rfl ?_
        refine q_lload_n rfl rfl rfl ?_
        refine q_iload_n rfl rfl rfl ?_
        refine q_nS2 rfl rfl (Or.inl rfl) rfl rfl ⟨rfl, rfl⟩ rfl ?_
        change PQ _ _ _ mm_X0_position 0 [.long 0, pm_un, .int 0] [] _ _ 0 0 _
        refine q_lload_n rfl rfl rfl ?_
        refine q_bipush rfl rfl ?_
        refine q_iload_n rfl rfl rfl ?_
        refine q_imul rfl rfl (q_tn (z := 0) rfl ?_)
        refine q_lushr rfl rfl (q_tnl (z := 0) rfl ?_)
        refine q_l2i rfl rfl (q_tn (z := 0) rfl ?_)
        refine q_bipush rfl rfl ?_
        refine q_iand rfl rfl (q_tn (z := 0) rfl ?_)
        refine q_iret rfl rfl trivial ?_
        refine ⟨_, rfl, ?_⟩
        refine q_nV2 rfl rfl (Or.inl rfl) rfl rfl rfl (by decide) (FW_1 S hW) ⟨rfl, rfl⟩ rfl ?_
        change PQ _ _ _ mm_X8_cellOf 0 [.ref 1, .int 0, .int 0, pm_un] [] _ _ 0 0 _
        refine q_iload_n rfl rfl rfl ?_
        refine q_iflt rfl rfl (fun c29 => absurd c29 (by decide)) (fun c29 => ?_)
        refine q_iload_n rfl rfl rfl ?_
        refine q_aload_n rfl rfl rfl ?_
        refine q_getf rfl rfl (by decide) (FW_1 S hW) rfl ?_
        refine q_icge rfl rfl (fun c30 => absurd c30 (by decide)) (fun c30 => ?_)
        refine q_iload_n rfl rfl rfl ?_
        refine q_iflt rfl rfl (fun c31 => absurd c31 (by decide)) (fun c31 => ?_)
        refine q_iload_n rfl rfl rfl ?_
        refine q_aload_n rfl rfl rfl ?_
        refine q_getf rfl rfl (by decide) (FW_1 S hW) rfl ?_
        refine q_iload_n rfl rfl rfl ?_
        refine q_iald rfl rfl (by decide) (FW_3 S hW) (by decide) (q_tn (z := 0) rfl ?_)
        refine q_icge rfl rfl (fun c32 => ?_) (fun c32 => absurd (by decide) c32)
        refine q_iconst rfl rfl ?_
        refine q_ist3n rfl rfl rfl rfl ?_
        refine q_iload_n rfl rfl rfl ?_
        refine q_ifeq rfl rfl (fun c33 => ?_) (fun c33 => absurd (by decide) c33)
        refine q_iconst rfl rfl ?_
        refine q_iret rfl rfl trivial ?_
        refine ⟨_, rfl, ?_⟩
        refine q_ist4 rfl rfl rfl rfl ?_
        refine q_iload rfl rfl rfl ?_
        refine q_iflt rfl rfl (fun c34 => ?_) (fun c34 => absurd (by decide) c34)
        refine q_icc3 (z := 1) rfl rfl rfl rfl rfl ?_
        refine q_goto rfl ?_
        refine q_iload_n rfl rfl rfl ?_
        refine q_aload_n rfl rfl rfl ?_
        refine q_getf rfl rfl (by decide) rfl rfl ?_
        refine q_getf rfl rfl (by decide) (FW_1 S hW) rfl ?_
        refine q_icge rfl rfl (fun c35 => ?_) (fun c35 => absurd (by decide) c35)
        refine q_iconst rfl rfl ?_
        refine q_iret rfl rfl rfl ?_
        refine ⟨_, rfl, ?_⟩
        refine q_ist3n rfl rfl rfl rfl ?_
        refine q_iconst rfl rfl ?_
        refine q_ist4 rfl rfl rfl rfl ?_
        refine q_iconst rfl rfl ?_
        refine q_ist5 rfl rfl rfl rfl ?_
        refine q_iload rfl rfl rfl ?_
        refine q_aload_n rfl rfl rfl ?_
        refine q_getf rfl rfl (by decide) rfl rfl ?_
        refine q_getf rfl rfl (by decide) (FW_1 S hW) rfl ?_
        refine q_icge rfl rfl (fun c36 => absurd c36 (by decide)) (fun c36 => ?_)
        refine q_aload_n rfl rfl rfl ?_
        refine q_lload_n rfl rfl rfl ?_
        refine q_iload rfl rfl rfl ?_
        refine q_iload_n rfl rfl rfl ?_
        refine q_nV3 rfl rfl (Or.inl rfl) rfl rfl rfl (by decide) rfl ⟨rfl, rfl⟩ rfl ?_
        change PQ _ _ _ mm_X6_isAble 0 [.ref 7, .long 0, pm_un, .int 0, .int 1, pm_un, pm_un, pm_un] [] _ _ 0 0 _
        refine q_aload_n rfl rfl rfl ?_
        refine q_getf rfl rfl (by decide) rfl rfl ?_
        refine q_iload_n rfl rfl rfl ?_
        refine q_lload_n rfl rfl rfl ?_
        refine q_iload_n rfl rfl rfl ?_
        refine q_nS2 rfl rfl (Or.inl rfl) rfl rfl ⟨rfl, rfl⟩ rfl ?_
        change PQ _ _ _ mm_X0_position 0 [.long 0, pm_un, .int 0] [] _ _ 0 0 _
        refine q_lload_n rfl rfl rfl ?_
        refine q_bipush rfl rfl ?_
        refine q_iload_n rfl rfl rfl ?_
        refine q_imul rfl rfl (q_tn (z := 0) rfl ?_)
        refine q_lushr rfl rfl (q_tnl (z := 0) rfl ?_)
        refine q_l2i rfl rfl (q_tn (z := 0) rfl ?_)
        refine q_bipush rfl rfl ?_
        refine q_iand rfl rfl (q_tn (z := 0) rfl ?_)
        refine q_iret rfl rfl trivial ?_
        refine ⟨_, rfl, ?_⟩
        refine q_nV2 rfl rfl (Or.inl rfl) rfl rfl rfl (by decide) (FW_1 S hW) ⟨rfl, rfl⟩ rfl ?_
        change PQ _ _ _ mm_X8_cellOf 0 [.ref 1, .int 0, .int 0, pm_un] [] _ _ 0 0 _
        refine q_iload_n rfl rfl rfl ?_
        refine q_iflt rfl rfl (fun c37 => absurd c37 (by decide)) (fun c37 => ?_)
        refine q_iload_n rfl rfl rfl ?_
        refine q_aload_n rfl rfl rfl ?_
        refine q_getf rfl rfl (by decide) (FW_1 S hW) rfl ?_
        refine q_icge rfl rfl (fun c38 => absurd c38 (by decide)) (fun c38 => ?_)
        refine q_iload_n rfl rfl rfl ?_
        refine q_iflt rfl rfl (fun c39 => absurd c39 (by decide)) (fun c39 => ?_)
        refine q_iload_n rfl rfl rfl ?_
        refine q_aload_n rfl rfl rfl ?_
        refine q_getf rfl rfl (by decide) (FW_1 S hW) rfl ?_
        refine q_iload_n rfl rfl rfl ?_
        refine q_iald rfl rfl (by decide) (FW_3 S hW) (by decide) (q_tn (z := 0) rfl ?_)
        refine q_icge rfl rfl (fun c40 => ?_) (fun c40 => absurd (by decide) c40)
        refine q_iconst rfl rfl ?_
        refine q_ist3n rfl rfl rfl rfl ?_
        refine q_iload_n rfl rfl rfl ?_
        refine q_ifeq rfl rfl (fun c41 => ?_) (fun c41 => absurd (by decide) c41)
        refine q_iconst rfl rfl ?_
        refine q_iret rfl rfl trivial ?_
        refine ⟨_, rfl, ?_⟩
        refine q_ist5 rfl rfl rfl rfl ?_
        refine q_iload rfl rfl rfl ?_
        refine q_ifge rfl rfl (fun c42 => absurd c42 (by decide)) (fun c42 => ?_)
        refine q_iconst rfl rfl ?_
        refine q_iret rfl rfl rfl ?_
        refine ⟨_, rfl, ?_⟩
        refine q_ifeq rfl rfl (fun c43 => ?_) (fun c43 => absurd (by decide) c43)
        refine q_icc5 (z := 1) rfl rfl rfl rfl rfl ?_
        refine q_goto rfl ?_
        refine q_iload rfl rfl rfl ?_
        refine q_aload_n rfl rfl rfl ?_
        refine q_getf rfl rfl (by decide) rfl rfl ?_
        refine q_getf rfl rfl (by decide) (FW_1 S hW) rfl ?_
        refine q_icge rfl rfl (fun c44 => ?_) (fun c44 => absurd (by decide) c44)
        refine q_iload rfl rfl rfl ?_
        refine q_iret rfl rfl trivial ?_
        refine ⟨_, rfl, ?_⟩
        refine q_lload_n rfl rfl rfl ?_
        refine q_nS1 rfl rfl (Or.inl rfl) rfl rfl ⟨rfl, rfl⟩ rfl ?_
        change PQ _ _ _ mm_X0_last 0 [.long 0, pm_un] [] _ _ 0 0 _
        refine q_lload_n rfl rfl rfl ?_
        refine q_bipush rfl rfl ?_
        refine q_lushr rfl rfl (q_tnl (z := 0) rfl ?_)
        refine q_l2i rfl rfl (q_tn (z := 0) rfl ?_)
        refine q_iconst rfl rfl ?_
        refine q_iand rfl rfl (q_tn (z := 0) rfl ?_)
        refine q_iconst rfl rfl ?_
        refine q_isub rfl rfl (q_tn (z := (-1)) rfl ?_)
        refine q_iret rfl rfl trivial ?_
        refine ⟨_, rfl, ?_⟩
        refine q_nV2 rfl rfl (Or.inl rfl) rfl rfl rfl (by decide) rfl ⟨rfl, rfl⟩ rfl ?_
        change PQ _ _ _ mm_X6_chosenHands 0 [.ref 7, .int 0, .int (-1), pm_un, pm_un] [] _ _ 0 0 _
        refine q_aload_n rfl rfl rfl ?_
        refine q_getf rfl rfl (by decide) rfl rfl ?_
        refine q_iconst rfl rfl ?_
        refine q_icne rfl rfl (fun c45 => absurd c45 (by decide)) (fun c45 => ?_)
        refine q_aload_n rfl rfl rfl ?_
        refine q_getf rfl rfl (by decide) rfl rfl ?_
        refine q_iconst rfl rfl ?_
        refine q_iceq rfl rfl (fun c46 => absurd c46 (by decide)) (fun c46 => ?_)
        refine q_iload_n rfl rfl rfl ?_
        refine q_iret rfl rfl trivial ?_
        refine ⟨_, rfl, ?_⟩
        refine q_ist5 rfl rfl rfl rfl ?_
        refine q_iconst rfl rfl ?_
        refine q_ist6 rfl rfl rfl rfl ?_
        refine q_iload rfl rfl rfl ?_
        refine q_iconst rfl rfl ?_
        refine q_icge rfl rfl (fun c47 => absurd c47 (by decide)) (fun c47 => ?_)
        refine q_iconst rfl rfl ?_
        refine q_ist7 rfl rfl rfl rfl ?_
        refine q_iload rfl rfl rfl ?_
        refine q_iload rfl rfl rfl ?_
        refine q_iushr rfl rfl (q_tn (z := 0) rfl ?_)
        refine q_iconst rfl rfl ?_
        refine q_iand rfl rfl (q_tn (z := 0) rfl ?_)
        refine q_ifeq rfl rfl (fun c48 => ?_) (fun c48 => absurd (by decide) c48)
        refine q_aload_n rfl rfl rfl ?_
        refine q_getf rfl rfl (by decide) rfl rfl ?_
        refine q_iload_n rfl rfl rfl ?_
        refine q_iconst rfl rfl ?_
        refine q_imul rfl rfl (q_tn (z := 0) rfl ?_)
        refine q_iload rfl rfl rfl ?_
        refine q_iadd rfl rfl (q_tn (z := 0) rfl ?_)
        refine q_iload rfl rfl rfl ?_
        refine q_iast rfl rfl (by decide) (FW_13 S hW) (by decide) ?_
        refine q_icc6 (z := 1) rfl rfl rfl rfl rfl ?_
        refine q_goto rfl ?_
        refine q_iload rfl rfl rfl ?_
        refine q_iconst rfl rfl ?_
        refine q_icge rfl rfl (fun c49 => absurd c49 (by decide)) (fun c49 => ?_)
        refine q_iconst rfl rfl ?_
        refine q_ist7 rfl rfl rfl rfl ?_
        refine q_iload rfl rfl rfl ?_
        refine q_iload rfl rfl rfl ?_
        refine q_iushr rfl rfl (q_tn (z := 0) rfl ?_)
        refine q_iconst rfl rfl ?_
        refine q_iand rfl rfl (q_tn (z := 0) rfl ?_)
        refine q_ifeq rfl rfl (fun c50 => ?_) (fun c50 => absurd (by decide) c50)
        refine q_aload_n rfl rfl rfl ?_
        refine q_getf rfl rfl (by decide) rfl rfl ?_
        refine q_iload_n rfl rfl rfl ?_
        refine q_iconst rfl rfl ?_
        refine q_imul rfl rfl (q_tn (z := 0) rfl ?_)
        refine q_iload rfl rfl rfl ?_
        refine q_iadd rfl rfl (q_tn (z := 1) rfl ?_)
        refine q_iload rfl rfl rfl ?_
        refine q_iast rfl rfl (by decide) rfl (by decide) ?_
        refine q_icc6 (z := 2) rfl rfl rfl rfl rfl ?_
        refine q_goto rfl ?_
        refine q_iload rfl rfl rfl ?_
        refine q_iconst rfl rfl ?_
        refine q_icge rfl rfl (fun c51 => absurd c51 (by decide)) (fun c51 => ?_)
        refine q_iconst rfl rfl ?_
        refine q_ist7 rfl rfl rfl rfl ?_
        refine q_iload rfl rfl rfl ?_
        refine q_iload rfl rfl rfl ?_
        refine q_iushr rfl rfl (q_tn (z := 0) rfl ?_)
        refine q_iconst rfl rfl ?_
        refine q_iand rfl rfl (q_tn (z := 0) rfl ?_)
        refine q_ifeq rfl rfl (fun c52 => ?_) (fun c52 => absurd (by decide) c52)
        refine q_aload_n rfl rfl rfl ?_
        refine q_getf rfl rfl (by decide) rfl rfl ?_
        refine q_iload_n rfl rfl rfl ?_
        refine q_iconst rfl rfl ?_
        refine q_imul rfl rfl (q_tn (z := 0) rfl ?_)
        refine q_iload rfl rfl rfl ?_
        refine q_iadd rfl rfl (q_tn (z := 2) rfl ?_)
        refine q_iload rfl rfl rfl ?_
        refine q_iast rfl rfl (by decide) rfl (by decide) ?_
        refine q_icc6 (z := 3) rfl rfl rfl rfl rfl ?_
        refine q_goto rfl ?_
        refine q_iload rfl rfl rfl ?_
        refine q_iconst rfl rfl ?_
        refine q_icge rfl rfl (fun c53 => ?_) (fun c53 => absurd (by decide) c53)
        refine q_aload_n rfl rfl rfl ?_
        refine q_getf rfl rfl (by decide) rfl rfl ?_
        refine q_iload_n rfl rfl rfl ?_
        refine q_iload rfl rfl rfl ?_
        refine q_ifeq rfl rfl (fun c54 => ?_) (fun c54 => absurd (by decide) c54)
        refine q_aload_n rfl rfl rfl ?_
        refine q_lload_n rfl rfl rfl ?_
        refine q_nV1 rfl rfl (Or.inl rfl) rfl rfl rfl (by decide) rfl ⟨rfl, rfl⟩ rfl ?_
        change PQ _ _ _ mm_X6_isEnd 0 [.ref 7, .long 0, pm_un, pm_un] [] _ _ 0 0 _
        refine q_iconst rfl rfl ?_
        refine q_ist3n rfl rfl rfl rfl ?_
        refine q_iload_n rfl rfl rfl ?_
        refine q_aload_n rfl rfl rfl ?_
        refine q_getf rfl rfl (by decide) rfl rfl ?_
        refine q_getf rfl rfl (by decide) (FW_1 S hW) rfl ?_
        refine q_icge rfl rfl (fun c55 => absurd c55 (by decide)) (fun c55 => ?_)
        refine q_aload_n rfl rfl rfl ?_
        refine q_getf rfl rfl (by decide) rfl rfl ?_
        refine q_iload_n rfl rfl rfl ?_
        refine q_lload_n rfl rfl rfl ?_
        refine q_iload_n rfl rfl rfl ?_
        refine q_nS2 rfl rfl (Or.inl rfl) rfl rfl ⟨rfl, rfl⟩ rfl ?_
        change PQ _ _ _ mm_X0_position 0 [.long 0, pm_un, .int 0] [] _ _ 0 0 _
        refine q_lload_n rfl rfl rfl ?_
        refine q_bipush rfl rfl ?_
        refine q_iload_n rfl rfl rfl ?_
        refine q_imul rfl rfl (q_tn (z := 0) rfl ?_)
        refine q_lushr rfl rfl (q_tnl (z := 0) rfl ?_)
        refine q_l2i rfl rfl (q_tn (z := 0) rfl ?_)
        refine q_bipush rfl rfl ?_
        refine q_iand rfl rfl (q_tn (z := 0) rfl ?_)
        refine q_iret rfl rfl trivial ?_
        refine ⟨_, rfl, ?_⟩
        refine q_nV2 rfl rfl (Or.inl rfl) rfl rfl rfl (by decide) (FW_1 S hW) ⟨rfl, rfl⟩ rfl ?_
        change PQ _ _ _ mm_X8_cellOf 0 [.ref 1, .int 0, .int 0, pm_un] [] _ _ 0 0 _
        refine q_iload_n rfl rfl rfl ?_
        refine q_iflt rfl rfl (fun c56 => absurd c56 (by decide)) (fun c56 => ?_)
        refine q_iload_n rfl rfl rfl ?_
        refine q_aload_n rfl rfl rfl ?_
        refine q_getf rfl rfl (by decide) (FW_1 S hW) rfl ?_
        refine q_icge rfl rfl (fun c57 => absurd c57 (by decide)) (fun c57 => ?_)
        refine q_iload_n rfl rfl rfl ?_
        refine q_iflt rfl rfl (fun c58 => absurd c58 (by decide)) (fun c58 => ?_)
        refine q_iload_n rfl rfl rfl ?_
        refine q_aload_n rfl rfl rfl ?_
        refine q_getf rfl rfl (by decide) (FW_1 S hW) rfl ?_
        refine q_iload_n rfl rfl rfl ?_
        refine q_iald rfl rfl (by decide) (FW_3 S hW) (by decide) (q_tn (z := 0) rfl ?_)
        refine q_icge rfl rfl (fun c59 => ?_) (fun c59 => absurd (by decide) c59)
        refine q_iconst rfl rfl ?_
        refine q_ist3n rfl rfl rfl rfl ?_
        refine q_iload_n rfl rfl rfl ?_
        refine q_ifeq rfl rfl (fun c60 => ?_) (fun c60 => absurd (by decide) c60)
        refine q_iconst rfl rfl ?_
        refine q_iret rfl rfl trivial ?_
        refine ⟨_, rfl, ?_⟩
        refine q_iflt rfl rfl (fun c61 => ?_) (fun c61 => absurd (by decide) c61)
        refine q_icc3 (z := 1) rfl rfl rfl rfl rfl ?_
        refine q_goto rfl ?_
        refine q_iload_n rfl rfl rfl ?_
        refine q_aload_n rfl rfl rfl ?_
        refine q_getf rfl rfl (by decide) rfl rfl ?_
        refine q_getf rfl rfl (by decide) (FW_1 S hW) rfl ?_
        refine q_icge rfl rfl (fun c62 => ?_) (fun c62 => absurd (by decide) c62)
        refine q_iconst rfl rfl ?_
        refine q_iret rfl rfl rfl ?_
        refine ⟨_, rfl, ?_⟩
        refine q_ifeq rfl rfl (fun c63 => absurd c63 (by decide)) (fun c63 => ?_)
        refine q_iconst rfl rfl ?_
        refine q_goto rfl ?_
        refine q_iast rfl rfl (by decide) (FW_12 S hW) (by decide) ?_
        refine q_aload_n rfl rfl rfl ?_
        refine q_dupr rfl rfl ?_
        refine q_getf rfl rfl (by decide) rfl rfl ?_
        refine q_aload_n rfl rfl rfl ?_
        refine q_getf rfl rfl (by decide) rfl rfl ?_
        refine q_iload_n rfl rfl rfl ?_
        refine q_iald rfl rfl (by decide) rfl (by decide) (q_tn (z := 1) rfl ?_)
        refine q_iconst rfl rfl ?_
        refine q_iceq rfl rfl (fun c64 => absurd c64 (by decide)) (fun c64 => ?_)
        refine q_aload_n rfl rfl rfl ?_
        refine q_lload_n rfl rfl rfl ?_
        refine q_nV1 rfl rfl (Or.inl rfl) rfl rfl rfl (by decide) rfl ⟨rfl, rfl⟩ rfl ?_
        change PQ _ _ _ mm_X6_someFailed 0 [.ref 7, .long 0, pm_un, pm_un] [] _ _ 0 0 _
        refine q_iconst rfl rfl ?_
        refine q_ist3n rfl rfl rfl rfl ?_
        refine q_iload_n rfl rfl rfl ?_
        refine q_aload_n rfl rfl rfl ?_
        refine q_getf rfl rfl (by decide) rfl rfl ?_
        refine q_getf rfl rfl (by decide) (FW_1 S hW) rfl ?_
        refine q_icge rfl rfl (fun c65 => absurd c65 (by decide)) (fun c65 => ?_)
        refine q_lload_n rfl rfl rfl ?_
        refine q_iload_n rfl rfl rfl ?_
        refine q_nS2 rfl rfl (Or.inl rfl) rfl rfl ⟨rfl, rfl⟩ rfl ?_
        change PQ _ _ _ mm_X0_position 0 [.long 0, pm_un, .int 0] [] _ _ 0 0 _
        refine q_lload_n rfl rfl rfl ?_
        refine q_bipush rfl rfl ?_
        refine q_iload_n rfl rfl rfl ?_
        refine q_imul rfl rfl (q_tn (z := 0) rfl ?_)
        refine q_lushr rfl rfl (q_tnl (z := 0) rfl ?_)
        refine q_l2i rfl rfl (q_tn (z := 0) rfl ?_)
        refine q_bipush rfl rfl ?_
        refine q_iand rfl rfl (q_tn (z := 0) rfl ?_)
        refine q_iret rfl rfl trivial ?_
        refine ⟨_, rfl, ?_⟩
        refine q_bipush rfl rfl ?_
        refine q_icne rfl rfl (fun c66 => absurd c66 (by decide)) (fun c66 => ?_)
        refine q_icc3 (z := 1) rfl rfl rfl rfl rfl ?_
        refine q_goto rfl ?_
        refine q_iload_n rfl rfl rfl ?_
        refine q_aload_n rfl rfl rfl ?_
        refine q_getf rfl rfl (by decide) rfl rfl ?_
        refine q_getf rfl rfl (by decide) (FW_1 S hW) rfl ?_
        refine q_icge rfl rfl (fun c67 => ?_) (fun c67 => absurd (by decide) c67)
        refine q_iconst rfl rfl ?_
        refine q_iret rfl rfl rfl ?_
        refine ⟨_, rfl, ?_⟩
        refine q_ifeq rfl rfl (fun c68 => ?_) (fun c68 => absurd (by decide) c68)
        refine q_iconst rfl rfl ?_
        refine q_ior rfl rfl (q_tn (z := 0) rfl ?_)
        refine q_putf rfl rfl (by decide) rfl (by decide) rfl rfl ?_
        refine q_aload_n rfl rfl rfl ?_
        refine q_getf rfl rfl (by decide) rfl rfl ?_
        refine q_iload_n rfl rfl rfl ?_
        refine q_iald rfl rfl (by decide) rfl (by decide) (q_tn (z := 1) rfl ?_)
        refine q_iconst rfl rfl ?_
        refine q_icne rfl rfl (fun c69 => ?_) (fun c69 => absurd (by decide) c69)
        refine q_aload_n rfl rfl rfl ?_
        refine q_lload_n rfl rfl rfl ?_
        refine q_nV1v rfl rfl (Or.inl rfl) rfl rfl rfl (by decide) rfl ⟨rfl, rfl⟩ rfl ?_
        change PQ _ _ _ mm_X7_noteEnd 0 [.ref 8, .long 0, pm_un, pm_un] [] _ _ 0 0 _
        refine q_iconst rfl rfl ?_
        refine q_ist3n rfl rfl rfl rfl ?_
        refine q_iload_n rfl rfl rfl ?_
        refine q_iconst rfl rfl ?_
        refine q_icge rfl rfl (fun c70 => absurd c70 (by decide)) (fun c70 => ?_)
        refine q_aload_n rfl rfl rfl ?_
        refine q_dupr rfl rfl ?_
        refine q_getf rfl rfl (by decide) rfl rfl ?_
        refine q_lconst rfl rfl ?_
        refine q_bipush rfl rfl ?_
        refine q_iload_n rfl rfl rfl ?_
        refine q_imul rfl rfl (q_tn (z := 0) rfl ?_)
        refine q_lload_n rfl rfl rfl ?_
        refine q_iload_n rfl rfl rfl ?_
        refine q_nS2 rfl rfl (Or.inl rfl) rfl rfl ⟨rfl, rfl⟩ rfl ?_
        change PQ _ _ _ mm_X0_place 0 [.long 0, pm_un, .int 0] [] _ _ 0 0 _
        refine q_lload_n rfl rfl rfl ?_
        refine q_bipush rfl rfl ?_
        refine q_iconst rfl rfl ?_
        refine q_iload_n rfl rfl rfl ?_
        refine q_imul rfl rfl (q_tn (z := 0) rfl ?_)
        refine q_iadd rfl rfl (q_tn (z := 36) rfl ?_)
        refine q_lushr rfl rfl (q_tnl (z := 0) rfl ?_)
        refine q_l2i rfl rfl (q_tn (z := 0) rfl ?_)
        refine q_bipush rfl rfl ?_
        refine q_iand rfl rfl (q_tn (z := 0) rfl ?_)
        refine q_iret rfl rfl trivial ?_
        refine ⟨_, rfl, ?_⟩
        refine q_iadd rfl rfl (q_tn (z := 0) rfl ?_)
        refine q_lshl rfl rfl (q_tnl (z := 1) rfl ?_)
        refine q_lor rfl rfl (q_tnl (z := 1) rfl ?_)
        refine q_putf rfl rfl (by decide) rfl (by decide) rfl trivial ?_
        refine q_icc3 (z := 1) rfl rfl rfl rfl rfl ?_
        refine q_goto rfl ?_
        refine q_iload_n rfl rfl rfl ?_
        refine q_iconst rfl rfl ?_
        refine q_icge rfl rfl (fun c71 => absurd c71 (by decide)) (fun c71 => ?_)
        refine q_aload_n rfl rfl rfl ?_
        refine q_dupr rfl rfl ?_
        refine q_getf rfl rfl (by decide) rfl rfl ?_
        refine q_lconst rfl rfl ?_
        refine q_bipush rfl rfl ?_
        refine q_iload_n rfl rfl rfl ?_
        refine q_imul rfl rfl (q_tn (z := 10) rfl ?_)
        refine q_lload_n rfl rfl rfl ?_
        refine q_iload_n rfl rfl rfl ?_
        refine q_nS2 rfl rfl (Or.inl rfl) rfl rfl ⟨rfl, rfl⟩ rfl ?_
        change PQ _ _ _ mm_X0_place 0 [.long 0, pm_un, .int 1] [] _ _ 0 0 _
        refine q_lload_n rfl rfl rfl ?_
        refine q_bipush rfl rfl ?_
        refine q_iconst rfl rfl ?_
        refine q_iload_n rfl rfl rfl ?_
        refine q_imul rfl rfl (q_tn (z := 4) rfl ?_)
        refine q_iadd rfl rfl (q_tn (z := 40) rfl ?_)
        refine q_lushr rfl rfl (q_tnl (z := 0) rfl ?_)
        refine q_l2i rfl rfl (q_tn (z := 0) rfl ?_)
        refine q_bipush rfl rfl ?_
        refine q_iand rfl rfl (q_tn (z := 0) rfl ?_)
        refine q_iret rfl rfl trivial ?_
        refine ⟨_, rfl, ?_⟩
        refine q_iadd rfl rfl (q_tn (z := 10) rfl ?_)
        refine q_lshl rfl rfl (q_tnl (z := 1024) rfl ?_)
        refine q_lor rfl rfl (q_tnl (z := 1025) rfl ?_)
        refine q_putf rfl rfl (by decide) rfl (by decide) rfl trivial ?_
        refine q_icc3 (z := 2) rfl rfl rfl rfl rfl ?_
        refine q_goto rfl ?_
        refine q_iload_n rfl rfl rfl ?_
        refine q_iconst rfl rfl ?_
        refine q_icge rfl rfl (fun c72 => absurd c72 (by decide)) (fun c72 => ?_)
        refine q_aload_n rfl rfl rfl ?_
        refine q_dupr rfl rfl ?_
        refine q_getf rfl rfl (by decide) rfl rfl ?_
        refine q_lconst rfl rfl ?_
        refine q_bipush rfl rfl ?_
        refine q_iload_n rfl rfl rfl ?_
        refine q_imul rfl rfl (q_tn (z := 20) rfl ?_)
        refine q_lload_n rfl rfl rfl ?_
        refine q_iload_n rfl rfl rfl ?_
        refine q_nS2 rfl rfl (Or.inl rfl) rfl rfl ⟨rfl, rfl⟩ rfl ?_
        change PQ _ _ _ mm_X0_place 0 [.long 0, pm_un, .int 2] [] _ _ 0 0 _
        refine q_lload_n rfl rfl rfl ?_
        refine q_bipush rfl rfl ?_
        refine q_iconst rfl rfl ?_
        refine q_iload_n rfl rfl rfl ?_
        refine q_imul rfl rfl (q_tn (z := 8) rfl ?_)
        refine q_iadd rfl rfl (q_tn (z := 44) rfl ?_)
        refine q_lushr rfl rfl (q_tnl (z := 0) rfl ?_)
        refine q_l2i rfl rfl (q_tn (z := 0) rfl ?_)
        refine q_bipush rfl rfl ?_
        refine q_iand rfl rfl (q_tn (z := 0) rfl ?_)
        refine q_iret rfl rfl trivial ?_
        refine ⟨_, rfl, ?_⟩
        refine q_iadd rfl rfl (q_tn (z := 20) rfl ?_)
        refine q_lshl rfl rfl (q_tnl (z := 1048576) rfl ?_)
        refine q_lor rfl rfl (q_tnl (z := 1049601) rfl ?_)
        refine q_putf rfl rfl (by decide) rfl (by decide) rfl trivial ?_
        refine q_icc3 (z := 3) rfl rfl rfl rfl rfl ?_
        refine q_goto rfl ?_
        refine q_iload_n rfl rfl rfl ?_
        refine q_iconst rfl rfl ?_
        refine q_icge rfl rfl (fun c73 => absurd c73 (by decide)) (fun c73 => ?_)
        refine q_aload_n rfl rfl rfl ?_
        refine q_dupr rfl rfl ?_
        refine q_getf rfl rfl (by decide) rfl rfl ?_
        refine q_lconst rfl rfl ?_
        refine q_bipush rfl rfl ?_
        refine q_iload_n rfl rfl rfl ?_
        refine q_imul rfl rfl (q_tn (z := 30) rfl ?_)
        refine q_lload_n rfl rfl rfl ?_
        refine q_iload_n rfl rfl rfl ?_
        refine q_nS2 rfl rfl (Or.inl rfl) rfl rfl ⟨rfl, rfl⟩ rfl ?_
        change PQ _ _ _ mm_X0_place 0 [.long 0, pm_un, .int 3] [] _ _ 0 0 _
        refine q_lload_n rfl rfl rfl ?_
        refine q_bipush rfl rfl ?_
        refine q_iconst rfl rfl ?_
        refine q_iload_n rfl rfl rfl ?_
        refine q_imul rfl rfl (q_tn (z := 12) rfl ?_)
        refine q_iadd rfl rfl (q_tn (z := 48) rfl ?_)
        refine q_lushr rfl rfl (q_tnl (z := 0) rfl ?_)
        refine q_l2i rfl rfl (q_tn (z := 0) rfl ?_)
        refine q_bipush rfl rfl ?_
        refine q_iand rfl rfl (q_tn (z := 0) rfl ?_)
        refine q_iret rfl rfl trivial ?_
        refine ⟨_, rfl, ?_⟩
        refine q_iadd rfl rfl (q_tn (z := 30) rfl ?_)
        refine q_lshl rfl rfl (q_tnl (z := 1073741824) rfl ?_)
        refine q_lor rfl rfl (q_tnl (z := 1074791425) rfl ?_)
        refine q_putf rfl rfl (by decide) rfl (by decide) rfl trivial ?_
        refine q_icc3 (z := 4) rfl rfl rfl rfl rfl ?_
        refine q_goto rfl ?_
        refine q_iload_n rfl rfl rfl ?_
        refine q_iconst rfl rfl ?_
        refine q_icge rfl rfl (fun c74 => ?_) (fun c74 => absurd (by decide) c74)
        refine q_ret rfl rfl ?_
        refine ⟨rfl, ?_⟩
        refine q_ret rfl rfl ?_
        refine ⟨rfl, ?_⟩
        refine q_aload_n rfl rfl rfl ?_
        refine q_getf rfl rfl (by decide) rfl rfl ?_
        refine q_ifne rfl rfl (fun c75 => ?_) (fun c75 => absurd (by decide) c75)
        refine q_iload_n rfl rfl rfl ?_
        refine q_ifeq rfl rfl (fun c76 => ?_) (fun c76 => absurd (by decide) c76)
        refine q_icc3 (z := 1) rfl rfl rfl rfl rfl ?_
        refine q_goto rfl ?_
        refine q_iload_n rfl rfl rfl ?_
        refine q_sipush rfl rfl ?_
        refine q_icge rfl rfl (fun c77 => absurd c77 (by decide)) (fun c77 => ?_)
        refine q_iload_n rfl rfl rfl ?_
        refine q_aload_n rfl rfl rfl ?_
        refine q_getf rfl rfl (by decide) rfl rfl ?_
        refine q_icge rfl rfl (fun c78 => ?_) (fun c78 => absurd (by decide) c78)
        refine q_ret rfl rfl ?_
        refine ⟨rfl, ?_⟩
        refine q_aload_n rfl rfl rfl ?_
        refine q_getf rfl rfl (by decide) (FW_0 S hW) rfl ?_
        refine q_iconst rfl rfl ?_
        refine q_putf rfl rfl (by decide) rfl (by decide) rfl trivial ?_
        refine q_aload_n rfl rfl rfl ?_
        refine q_getf rfl rfl (by decide) (FW_0 S hW) rfl ?_
        refine q_iload_n rfl rfl rfl ?_
        refine q_aload_n rfl rfl rfl ?_
        refine q_getf rfl rfl (by decide) rfl rfl ?_
        refine q_ifeq rfl rfl (fun c79 => ?_) (fun c79 => absurd (by decide) c79)
        refine q_aload_n rfl rfl rfl ?_
        refine q_getf rfl rfl (by decide) rfl rfl ?_
        refine q_iast rfl rfl (by decide) (FW_44 S hW) (by decide) ?_
        refine q_aload_n rfl rfl rfl ?_
        refine q_getf rfl rfl (by decide) (FW_0 S hW) rfl ?_
        refine q_iload_n rfl rfl rfl ?_
        refine q_aload_n rfl rfl rfl ?_
        refine q_getf rfl rfl (by decide) rfl rfl ?_
        refine q_last rfl rfl (by decide) (FW_45 S hW) (by decide) ?_
        refine q_aload_n rfl rfl rfl ?_
        refine q_getf rfl rfl (by decide) (FW_0 S hW) rfl ?_
        refine q_iload_n rfl rfl rfl ?_
        refine q_iald rfl rfl (by decide) rfl (by decide) (q_tn (z := 1) rfl ?_)
        refine q_iret rfl rfl trivial ?_
        refine ⟨_, rfl, ?_⟩
        refine q_goto rfl ?_
        refine q_iret rfl rfl trivial ?_
        refine ⟨_, rfl, ?_⟩
        refine q_aload_n rfl rfl rfl ?_
        refine q_aload_nF rfl rfl rfl ?_
        refine q_iload rfl rfl rfl ?_
        refine q_iconst rfl rfl ?_
        refine q_iadd rfl rfl (q_tn (z := 1) rfl ?_)
        refine q_ialdX (x := 0) rfl rfl rfl hx1 ?_
        refine q_nV1 rfl rfl (Or.inl rfl) rfl rfl rfl (by decide) (FW_46 S hW) ⟨rfl, rfl⟩ rfl ?_
        change PQ _ _ _ mm_X12_states 0 [.ref 46, .int 0] [] _ _ 0 0 _
        refine q_aload_n rfl rfl rfl ?_
        refine q_iload_n rfl rfl rfl ?_
        refine q_iconst rfl rfl ?_
        refine q_iconst rfl rfl ?_
        refine q_nV3 rfl rfl (Or.inl rfl) rfl rfl rfl (by decide) (FW_46 S hW) ⟨rfl, rfl⟩ rfl ?_
        change PQ _ _ _ mm_X12_in 0 [.ref 46, .int 0, .int 0, .int 4] [] _ _ 0 0 _
        refine q_iload_n rfl rfl rfl ?_
        refine q_iload_n rfl rfl rfl ?_
        refine q_iclt rfl rfl (fun c80 => absurd c80 (by decide)) (fun c80 => ?_)
        refine q_iload_n rfl rfl rfl ?_
        refine q_iload_n rfl rfl rfl ?_
        refine q_icgt rfl rfl (fun c81 => absurd c81 (by decide)) (fun c81 => ?_)
        refine q_iconst rfl rfl ?_
        refine q_goto rfl ?_
        refine q_iret rfl rfl rfl ?_
        refine ⟨_, rfl, ?_⟩
        refine q_ifne rfl rfl (fun c82 => absurd c82 (by decide)) (fun c82 => ?_)
        refine q_aload_n rfl rfl rfl ?_
        refine q_iload_n rfl rfl rfl ?_
        refine q_nV1 rfl rfl (Or.inl rfl) rfl rfl rfl (by decide) (FW_46 S hW) ⟨rfl, rfl⟩ rfl ?_
        change PQ _ _ _ mm_X12_isSpent 0 [.ref 46, .int 0, pm_un, pm_un, pm_un] [] _ _ 0 0 _
        refine q_iload_n rfl rfl rfl ?_
        refine q_ifne rfl rfl (fun c83 => ?_) (fun c83 => absurd (by decide) c83)
        refine q_iconst rfl rfl ?_
        refine q_goto rfl ?_
        refine q_ist2n rfl rfl rfl rfl ?_
        refine q_aload_n rfl rfl rfl ?_
        refine q_iconst rfl rfl ?_
        refine q_putf rfl rfl (by decide) (FW_46 S hW) (by decide) rfl trivial ?_
        refine q_aload_n rfl rfl rfl ?_
        refine q_getf rfl rfl (by decide) rfl rfl ?_
        refine q_iload_n rfl rfl rfl ?_
        refine q_iald rfl rfl (by decide) (FW_62 S hW) (by decide) (q_tn (z := 0) rfl ?_)
        refine q_ifeq rfl rfl (fun c84 => ?_) (fun c84 => absurd (by decide) c84)
        refine q_aload_n rfl rfl rfl ?_
        refine q_getf rfl rfl (by decide) rfl rfl ?_
        refine q_iload_n rfl rfl rfl ?_
        refine q_aload_n rfl rfl rfl ?_
        refine q_iload_n rfl rfl rfl ?_
        refine q_iload_n rfl rfl rfl ?_
        refine q_nV2 rfl rfl (Or.inl rfl) rfl rfl rfl (by decide) rfl ⟨rfl, rfl⟩ rfl ?_
        change PQ _ _ _ mm_X12_explore 0 [.ref 46, .int 0, .int 0, pm_un, pm_un, pm_un, pm_un, pm_un] [] _ _ 0 0 _
        refine q_iconst rfl rfl ?_
        refine q_ist3n rfl rfl rfl rfl ?_
        refine l_net (R := 0) (by decide) rfl (by decide) rfl rfl (FW_61 S hW) ?_
        refine q_aload_n rfl rfl rfl ?_
        refine q_getf rfl rfl (by decide) rfl rfl ?_
        refine q_iload_n rfl rfl rfl ?_
        refine q_iconst rfl rfl ?_
        refine q_iast rfl rfl (by decide) (FW_60 S hW) (by decide) ?_
        refine q_aload_n rfl rfl rfl ?_
        refine q_nV0v rfl rfl (Or.inl rfl) rfl rfl rfl (by decide) rfl ⟨rfl, rfl⟩ rfl ?_
        change PQ _ _ _ mm_X12_firstState 0 [.ref 46, pm_un] [] _ _ 0 0 _
        refine q_iconst rfl rfl ?_
        refine q_ist1n rfl rfl rfl rfl ?_
        refine q_iload_n rfl rfl rfl ?_
        refine q_bipush rfl rfl ?_
        refine q_icge rfl rfl (fun c85 => absurd c85 (by decide)) (fun c85 => ?_)
        refine q_aload_n rfl rfl rfl ?_
        refine q_getf rfl rfl (by decide) rfl rfl ?_
        refine q_iload_n rfl rfl rfl ?_
        refine q_iconst rfl rfl ?_
        refine q_iast rfl rfl (by decide) (FW_52 S hW) (by decide) ?_
        refine q_icc1 (z := 1) rfl rfl rfl rfl rfl ?_
        refine q_goto rfl ?_
        refine q_iload_n rfl rfl rfl ?_
        refine q_bipush rfl rfl ?_
        refine q_icge rfl rfl (fun c86 => absurd c86 (by decide)) (fun c86 => ?_)
        refine q_aload_n rfl rfl rfl ?_
        refine q_getf rfl rfl (by decide) rfl rfl ?_
        refine q_iload_n rfl rfl rfl ?_
        refine q_iconst rfl rfl ?_
        refine q_iast rfl rfl (by decide) rfl (by decide) ?_
        refine q_icc1 (z := 2) rfl rfl rfl rfl rfl ?_
        refine q_goto rfl ?_
        refine q_iload_n rfl rfl rfl ?_
        refine q_bipush rfl rfl ?_
        refine q_icge rfl rfl (fun c87 => absurd c87 (by decide)) (fun c87 => ?_)
        refine q_aload_n rfl rfl rfl ?_
        refine q_getf rfl rfl (by decide) rfl rfl ?_
        refine q_iload_n rfl rfl rfl ?_
        refine q_iconst rfl rfl ?_
        refine q_iast rfl rfl (by decide) rfl (by decide) ?_
        refine q_icc1 (z := 3) rfl rfl rfl rfl rfl ?_
        refine q_goto rfl ?_
        refine q_iload_n rfl rfl rfl ?_
        refine q_bipush rfl rfl ?_
        refine q_icge rfl rfl (fun c88 => absurd c88 (by decide)) (fun c88 => ?_)
        refine q_aload_n rfl rfl rfl ?_
        refine q_getf rfl rfl (by decide) rfl rfl ?_
        refine q_iload_n rfl rfl rfl ?_
        refine q_iconst rfl rfl ?_
        refine q_iast rfl rfl (by decide) rfl (by decide) ?_
        refine q_icc1 (z := 4) rfl rfl rfl rfl rfl ?_
        refine q_goto rfl ?_
        refine q_iload_n rfl rfl rfl ?_
        refine q_bipush rfl rfl ?_
        refine q_icge rfl rfl (fun c89 => absurd c89 (by decide)) (fun c89 => ?_)
        refine q_aload_n rfl rfl rfl ?_
        refine q_getf rfl rfl (by decide) rfl rfl ?_
        refine q_iload_n rfl rfl rfl ?_
        refine q_iconst rfl rfl ?_
        refine q_iast rfl rfl (by decide) rfl (by decide) ?_
        refine q_icc1 (z := 5) rfl rfl rfl rfl rfl ?_
        refine q_goto rfl ?_
        refine q_iload_n rfl rfl rfl ?_
        refine q_bipush rfl rfl ?_
        refine q_icge rfl rfl (fun c90 => absurd c90 (by decide)) (fun c90 => ?_)
        refine q_aload_n rfl rfl rfl ?_
        refine q_getf rfl rfl (by decide) rfl rfl ?_
        refine q_iload_n rfl rfl rfl ?_
        refine q_iconst rfl rfl ?_
        refine q_iast rfl rfl (by decide) rfl (by decide) ?_
        refine q_icc1 (z := 6) rfl rfl rfl rfl rfl ?_
        refine q_goto rfl ?_
        refine q_iload_n rfl rfl rfl ?_
        refine q_bipush rfl rfl ?_
        refine q_icge rfl rfl (fun c91 => absurd c91 (by decide)) (fun c91 => ?_)
        refine q_aload_n rfl rfl rfl ?_
        refine q_getf rfl rfl (by decide) rfl rfl ?_
        refine q_iload_n rfl rfl rfl ?_
        refine q_iconst rfl rfl ?_
        refine q_iast rfl rfl (by decide) rfl (by decide) ?_
        refine q_icc1 (z := 7) rfl rfl rfl rfl rfl ?_
        refine q_goto rfl ?_
        refine q_iload_n rfl rfl rfl ?_
        refine q_bipush rfl rfl ?_
        refine q_icge rfl rfl (fun c92 => absurd c92 (by decide)) (fun c92 => ?_)
        refine q_aload_n rfl rfl rfl ?_
        refine q_getf rfl rfl (by decide) rfl rfl ?_
        refine q_iload_n rfl rfl rfl ?_
        refine q_iconst rfl rfl ?_
        refine q_iast rfl rfl (by decide) rfl (by decide) ?_
        refine q_icc1 (z := 8) rfl rfl rfl rfl rfl ?_
        refine q_goto rfl ?_
        refine q_iload_n rfl rfl rfl ?_
        refine q_bipush rfl rfl ?_
        refine q_icge rfl rfl (fun c93 => absurd c93 (by decide)) (fun c93 => ?_)
        refine q_aload_n rfl rfl rfl ?_
        refine q_getf rfl rfl (by decide) rfl rfl ?_
        refine q_iload_n rfl rfl rfl ?_
        refine q_iconst rfl rfl ?_
        refine q_iast rfl rfl (by decide) rfl (by decide) ?_
        refine q_icc1 (z := 9) rfl rfl rfl rfl rfl ?_
        refine q_goto rfl ?_
        refine q_iload_n rfl rfl rfl ?_
        refine q_bipush rfl rfl ?_
        refine q_icge rfl rfl (fun c94 => absurd c94 (by decide)) (fun c94 => ?_)
        refine q_aload_n rfl rfl rfl ?_
        refine q_getf rfl rfl (by decide) rfl rfl ?_
        refine q_iload_n rfl rfl rfl ?_
        refine q_iconst rfl rfl ?_
        refine q_iast rfl rfl (by decide) rfl (by decide) ?_
        refine q_icc1 (z := 10) rfl rfl rfl rfl rfl ?_
        refine q_goto rfl ?_
        refine q_iload_n rfl rfl rfl ?_
        refine q_bipush rfl rfl ?_
        refine q_icge rfl rfl (fun c95 => absurd c95 (by decide)) (fun c95 => ?_)
        refine q_aload_n rfl rfl rfl ?_
        refine q_getf rfl rfl (by decide) rfl rfl ?_
        refine q_iload_n rfl rfl rfl ?_
        refine q_iconst rfl rfl ?_
        refine q_iast rfl rfl (by decide) rfl (by decide) ?_
        refine q_icc1 (z := 11) rfl rfl rfl rfl rfl ?_
        refine q_goto rfl ?_
        refine q_iload_n rfl rfl rfl ?_
        refine q_bipush rfl rfl ?_
        refine q_icge rfl rfl (fun c96 => absurd c96 (by decide)) (fun c96 => ?_)
        refine q_aload_n rfl rfl rfl ?_
        refine q_getf rfl rfl (by decide) rfl rfl ?_
        refine q_iload_n rfl rfl rfl ?_
        refine q_iconst rfl rfl ?_
        refine q_iast rfl rfl (by decide) rfl (by decide) ?_
        refine q_icc1 (z := 12) rfl rfl rfl rfl rfl ?_
        refine q_goto rfl ?_
        refine q_iload_n rfl rfl rfl ?_
        refine q_bipush rfl rfl ?_
        refine q_icge rfl rfl (fun c97 => absurd c97 (by decide)) (fun c97 => ?_)
        refine q_aload_n rfl rfl rfl ?_
        refine q_getf rfl rfl (by decide) rfl rfl ?_
        refine q_iload_n rfl rfl rfl ?_
        refine q_iconst rfl rfl ?_
        refine q_iast rfl rfl (by decide) rfl (by decide) ?_
        refine q_icc1 (z := 13) rfl rfl rfl rfl rfl ?_
        refine q_goto rfl ?_
        refine q_iload_n rfl rfl rfl ?_
        refine q_bipush rfl rfl ?_
        refine q_icge rfl rfl (fun c98 => absurd c98 (by decide)) (fun c98 => ?_)
        refine q_aload_n rfl rfl rfl ?_
        refine q_getf rfl rfl (by decide) rfl rfl ?_
        refine q_iload_n rfl rfl rfl ?_
        refine q_iconst rfl rfl ?_
        refine q_iast rfl rfl (by decide) rfl (by decide) ?_
        refine q_icc1 (z := 14) rfl rfl rfl rfl rfl ?_
        refine q_goto rfl ?_
        refine q_iload_n rfl rfl rfl ?_
        refine q_bipush rfl rfl ?_
        refine q_icge rfl rfl (fun c99 => absurd c99 (by decide)) (fun c99 => ?_)
        refine q_aload_n rfl rfl rfl ?_
        refine q_getf rfl rfl (by decide) rfl rfl ?_
        refine q_iload_n rfl rfl rfl ?_
        refine q_iconst rfl rfl ?_
        refine q_iast rfl rfl (by decide) rfl (by decide) ?_
        refine q_icc1 (z := 15) rfl rfl rfl rfl rfl ?_
        refine q_goto rfl ?_
        refine q_iload_n rfl rfl rfl ?_
        refine q_bipush rfl rfl ?_
        refine q_icge rfl rfl (fun c100 => absurd c100 (by decide)) (fun c100 => ?_)
        refine q_aload_n rfl rfl rfl ?_
        refine q_getf rfl rfl (by decide) rfl rfl ?_
        refine q_iload_n rfl rfl rfl ?_
        refine q_iconst rfl rfl ?_
        refine q_iast rfl rfl (by decide) rfl (by decide) ?_
        refine q_icc1 (z := 16) rfl rfl rfl rfl rfl ?_
        refine q_goto rfl ?_
        refine q_iload_n rfl rfl rfl ?_
        refine q_bipush rfl rfl ?_
        refine q_icge rfl rfl (fun c101 => absurd c101 (by decide)) (fun c101 => ?_)
        refine q_aload_n rfl rfl rfl ?_
        refine q_getf rfl rfl (by decide) rfl rfl ?_
        refine q_iload_n rfl rfl rfl ?_
        refine q_iconst rfl rfl ?_
        refine q_iast rfl rfl (by decide) rfl (by decide) ?_
        refine q_icc1 (z := 17) rfl rfl rfl rfl rfl ?_
        refine q_goto rfl ?_
        refine q_iload_n rfl rfl rfl ?_
        refine q_bipush rfl rfl ?_
        refine q_icge rfl rfl (fun c102 => absurd c102 (by decide)) (fun c102 => ?_)
        refine q_aload_n rfl rfl rfl ?_
        refine q_getf rfl rfl (by decide) rfl rfl ?_
        refine q_iload_n rfl rfl rfl ?_
        refine q_iconst rfl rfl ?_
        refine q_iast rfl rfl (by decide) rfl (by decide) ?_
        refine q_icc1 (z := 18) rfl rfl rfl rfl rfl ?_
        refine q_goto rfl ?_
        refine q_iload_n rfl rfl rfl ?_
        refine q_bipush rfl rfl ?_
        refine q_icge rfl rfl (fun c103 => absurd c103 (by decide)) (fun c103 => ?_)
        refine q_aload_n rfl rfl rfl ?_
        refine q_getf rfl rfl (by decide) rfl rfl ?_
        refine q_iload_n rfl rfl rfl ?_
        refine q_iconst rfl rfl ?_
        refine q_iast rfl rfl (by decide) rfl (by decide) ?_
        refine q_icc1 (z := 19) rfl rfl rfl rfl rfl ?_
        refine q_goto rfl ?_
        refine q_iload_n rfl rfl rfl ?_
        refine q_bipush rfl rfl ?_
        refine q_icge rfl rfl (fun c104 => absurd c104 (by decide)) (fun c104 => ?_)
        refine q_aload_n rfl rfl rfl ?_
        refine q_getf rfl rfl (by decide) rfl rfl ?_
        refine q_iload_n rfl rfl rfl ?_
        refine q_iconst rfl rfl ?_
        refine q_iast rfl rfl (by decide) rfl (by decide) ?_
        refine q_icc1 (z := 20) rfl rfl rfl rfl rfl ?_
        refine q_goto rfl ?_
        refine q_iload_n rfl rfl rfl ?_
        refine q_bipush rfl rfl ?_
        refine q_icge rfl rfl (fun c105 => ?_) (fun c105 => absurd (by decide) c105)
        refine q_iconst rfl rfl ?_
        refine q_ist1n rfl rfl rfl rfl ?_
        refine q_iload_n rfl rfl rfl ?_
        refine q_aload_n rfl rfl rfl ?_
        refine q_getf rfl rfl (by decide) rfl rfl ?_
        refine q_icge rfl rfl (fun c106 => absurd c106 (by decide)) (fun c106 => ?_)
        refine q_aload_n rfl rfl rfl ?_
        refine q_getf rfl rfl (by decide) rfl rfl ?_
        refine q_iconst rfl rfl ?_
        refine q_iload_n rfl rfl rfl ?_
        refine q_imul rfl rfl (q_tn (z := 0) rfl ?_)
        refine q_aload_n rfl rfl rfl ?_
        refine q_getf rfl rfl (by decide) rfl rfl ?_
        refine q_aload_n rfl rfl rfl ?_
        refine q_getf rfl rfl (by decide) rfl rfl ?_
        refine q_iload_n rfl rfl rfl ?_
        refine q_iadd rfl rfl (q_tn (z := 0) rfl ?_)
        refine q_iald rfl rfl (by decide) (FW_47 S hW) (by decide) (q_tn (z := 0) rfl ?_)
        refine q_ifne rfl rfl (fun c107 => ?_) (fun c107 => absurd (by decide) c107)
        refine q_bipush rfl rfl ?_
        refine q_goto rfl ?_
        refine q_iast rfl rfl (by decide) rfl (by decide) ?_
        refine q_icc1 (z := 1) rfl rfl rfl rfl rfl ?_
        refine q_goto rfl ?_
        refine q_iload_n rfl rfl rfl ?_
        refine q_aload_n rfl rfl rfl ?_
        refine q_getf rfl rfl (by decide) rfl rfl ?_
        refine q_icge rfl rfl (fun c108 => ?_) (fun c108 => absurd (by decide) c108)
        refine q_iconst rfl rfl ?_
        refine q_ist1n rfl rfl rfl rfl ?_
        refine q_iload_n rfl rfl rfl ?_
        refine q_iconst rfl rfl ?_
        refine q_icge rfl rfl (fun c109 => absurd c109 (by decide)) (fun c109 => ?_)
        refine q_aload_n rfl rfl rfl ?_
        refine q_getf rfl rfl (by decide) rfl rfl ?_
        refine q_bipush rfl rfl ?_
        refine q_iload_n rfl rfl rfl ?_
        refine q_iadd rfl rfl (q_tn (z := 12) rfl ?_)
        refine q_aload_n rfl rfl rfl ?_
        refine q_getf rfl rfl (by decide) rfl rfl ?_
        refine q_iload_n rfl rfl rfl ?_
        refine q_iald rfl rfl (by decide) (FW_51 S hW) (by decide) (q_tn (z := 0) rfl ?_)
        refine q_iast rfl rfl (by decide) rfl (by decide) ?_
        refine q_icc1 (z := 1) rfl rfl rfl rfl rfl ?_
        refine q_goto rfl ?_
        refine q_iload_n rfl rfl rfl ?_
        refine q_iconst rfl rfl ?_
        refine q_icge rfl rfl (fun c110 => absurd c110 (by decide)) (fun c110 => ?_)
        refine q_aload_n rfl rfl rfl ?_
        refine q_getf rfl rfl (by decide) rfl rfl ?_
        refine q_bipush rfl rfl ?_
        refine q_iload_n rfl rfl rfl ?_
        refine q_iadd rfl rfl (q_tn (z := 13) rfl ?_)
        refine q_aload_n rfl rfl rfl ?_
        refine q_getf rfl rfl (by decide) rfl rfl ?_
        refine q_iload_n rfl rfl rfl ?_
        refine q_iald rfl rfl (by decide) (FW_51 S hW) (by decide) (q_tn (z := 0) rfl ?_)
        refine q_iast rfl rfl (by decide) rfl (by decide) ?_
        refine q_icc1 (z := 2) rfl rfl rfl rfl rfl ?_
        refine q_goto rfl ?_
        refine q_iload_n rfl rfl rfl ?_
        refine q_iconst rfl rfl ?_
        refine q_icge rfl rfl (fun c111 => absurd c111 (by decide)) (fun c111 => ?_)
        refine q_aload_n rfl rfl rfl ?_
        refine q_getf rfl rfl (by decide) rfl rfl ?_
        refine q_bipush rfl rfl ?_
        refine q_iload_n rfl rfl rfl ?_
        refine q_iadd rfl rfl (q_tn (z := 14) rfl ?_)
        refine q_aload_n rfl rfl rfl ?_
        refine q_getf rfl rfl (by decide) rfl rfl ?_
        refine q_iload_n rfl rfl rfl ?_
        refine q_iald rfl rfl (by decide) (FW_51 S hW) (by decide) (q_tn (z := 0) rfl ?_)
        refine q_iast rfl rfl (by decide) rfl (by decide) ?_
        refine q_icc1 (z := 3) rfl rfl rfl rfl rfl ?_
        refine q_goto rfl ?_
        refine q_iload_n rfl rfl rfl ?_
        refine q_iconst rfl rfl ?_
        refine q_icge rfl rfl (fun c112 => absurd c112 (by decide)) (fun c112 => ?_)
        refine q_aload_n rfl rfl rfl ?_
        refine q_getf rfl rfl (by decide) rfl rfl ?_
        refine q_bipush rfl rfl ?_
        refine q_iload_n rfl rfl rfl ?_
        refine q_iadd rfl rfl (q_tn (z := 15) rfl ?_)
        refine q_aload_n rfl rfl rfl ?_
        refine q_getf rfl rfl (by decide) rfl rfl ?_
        refine q_iload_n rfl rfl rfl ?_
        refine q_iald rfl rfl (by decide) (FW_51 S hW) (by decide) (q_tn (z := 0) rfl ?_)
        refine q_iast rfl rfl (by decide) rfl (by decide) ?_
        refine q_icc1 (z := 4) rfl rfl rfl rfl rfl ?_
        refine q_goto rfl ?_
        refine q_iload_n rfl rfl rfl ?_
        refine q_iconst rfl rfl ?_
        as_aux_lemma =>
          refine q_icge rfl rfl (fun c113 => ?_) (fun c113 => absurd (by decide) c113)
          refine q_ret rfl rfl ?_
          refine ⟨rfl, ?_⟩
          refine q_iconst rfl rfl ?_
          refine q_ist3n rfl rfl rfl rfl ?_
          refine q_iload_n rfl rfl rfl ?_
          refine q_bipush rfl rfl ?_
          refine q_icge rfl rfl (fun c114 => absurd c114 (by decide)) (fun c114 => ?_)
          refine q_aload_n rfl rfl rfl ?_
          refine q_getf rfl rfl (by decide) rfl rfl ?_
          refine q_iload_n rfl rfl rfl ?_
          refine q_aload_n rfl rfl rfl ?_
          refine q_getf rfl rfl (by decide) rfl rfl ?_
          refine q_iload_n rfl rfl rfl ?_
          refine q_iald rfl rfl (by decide) rfl (by decide) (q_tn (z := 10) rfl ?_)
          refine q_iast rfl rfl (by decide) (FW_53 S hW) (by decide) ?_
          refine q_icc3 (z := 1) rfl rfl rfl rfl rfl ?_
          refine q_goto rfl ?_
          refine q_iload_n rfl rfl rfl ?_
          refine q_bipush rfl rfl ?_
          refine q_icge rfl rfl (fun c115 => absurd c115 (by decide)) (fun c115 => ?_)
          refine q_aload_n rfl rfl rfl ?_
          refine q_getf rfl rfl (by decide) rfl rfl ?_
          refine q_iload_n rfl rfl rfl ?_
          refine q_aload_n rfl rfl rfl ?_
          refine q_getf rfl rfl (by decide) rfl rfl ?_
          refine q_iload_n rfl rfl rfl ?_
          refine q_iald rfl rfl (by decide) rfl (by decide) (q_tn (z := 0) rfl ?_)
          refine q_iast rfl rfl (by decide) rfl (by decide) ?_
          refine q_icc3 (z := 2) rfl rfl rfl rfl rfl ?_
          refine q_goto rfl ?_
          refine q_iload_n rfl rfl rfl ?_
          refine q_bipush rfl rfl ?_
          refine q_icge rfl rfl (fun c116 => absurd c116 (by decide)) (fun c116 => ?_)
          refine q_aload_n rfl rfl rfl ?_
          refine q_getf rfl rfl (by decide) rfl rfl ?_
          refine q_iload_n rfl rfl rfl ?_
          refine q_aload_n rfl rfl rfl ?_
          refine q_getf rfl rfl (by decide) rfl rfl ?_
          refine q_iload_n rfl rfl rfl ?_
          refine q_iald rfl rfl (by decide) rfl (by decide) (q_tn (z := 0) rfl ?_)
          refine q_iast rfl rfl (by decide) rfl (by decide) ?_
          refine q_icc3 (z := 3) rfl rfl rfl rfl rfl ?_
          refine q_goto rfl ?_
          refine q_iload_n rfl rfl rfl ?_
          refine q_bipush rfl rfl ?_
          refine q_icge rfl rfl (fun c117 => absurd c117 (by decide)) (fun c117 => ?_)
          refine q_aload_n rfl rfl rfl ?_
          refine q_getf rfl rfl (by decide) rfl rfl ?_
          refine q_iload_n rfl rfl rfl ?_
          refine q_aload_n rfl rfl rfl ?_
          refine q_getf rfl rfl (by decide) rfl rfl ?_
          refine q_iload_n rfl rfl rfl ?_
          refine q_iald rfl rfl (by decide) rfl (by decide) (q_tn (z := 0) rfl ?_)
          refine q_iast rfl rfl (by decide) rfl (by decide) ?_
          refine q_icc3 (z := 4) rfl rfl rfl rfl rfl ?_
          refine q_goto rfl ?_
          refine q_iload_n rfl rfl rfl ?_
          refine q_bipush rfl rfl ?_
          refine q_icge rfl rfl (fun c118 => absurd c118 (by decide)) (fun c118 => ?_)
          refine q_aload_n rfl rfl rfl ?_
          refine q_getf rfl rfl (by decide) rfl rfl ?_
          refine q_iload_n rfl rfl rfl ?_
          refine q_aload_n rfl rfl rfl ?_
          refine q_getf rfl rfl (by decide) rfl rfl ?_
          refine q_iload_n rfl rfl rfl ?_
          refine q_iald rfl rfl (by decide) rfl (by decide) (q_tn (z := 0) rfl ?_)
          refine q_iast rfl rfl (by decide) rfl (by decide) ?_
          refine q_icc3 (z := 5) rfl rfl rfl rfl rfl ?_
          refine q_goto rfl ?_
          refine q_iload_n rfl rfl rfl ?_
          refine q_bipush rfl rfl ?_
          refine q_icge rfl rfl (fun c119 => absurd c119 (by decide)) (fun c119 => ?_)
          refine q_aload_n rfl rfl rfl ?_
          refine q_getf rfl rfl (by decide) rfl rfl ?_
          refine q_iload_n rfl rfl rfl ?_
          refine q_aload_n rfl rfl rfl ?_
          refine q_getf rfl rfl (by decide) rfl rfl ?_
          refine q_iload_n rfl rfl rfl ?_
          refine q_iald rfl rfl (by decide) rfl (by decide) (q_tn (z := 0) rfl ?_)
          refine q_iast rfl rfl (by decide) rfl (by decide) ?_
          refine q_icc3 (z := 6) rfl rfl rfl rfl rfl ?_
          refine q_goto rfl ?_
          refine q_iload_n rfl rfl rfl ?_
          refine q_bipush rfl rfl ?_
          refine q_icge rfl rfl (fun c120 => absurd c120 (by decide)) (fun c120 => ?_)
          refine q_aload_n rfl rfl rfl ?_
          refine q_getf rfl rfl (by decide) rfl rfl ?_
          refine q_iload_n rfl rfl rfl ?_
          refine q_aload_n rfl rfl rfl ?_
          refine q_getf rfl rfl (by decide) rfl rfl ?_
          refine q_iload_n rfl rfl rfl ?_
          refine q_iald rfl rfl (by decide) rfl (by decide) (q_tn (z := 0) rfl ?_)
          refine q_iast rfl rfl (by decide) rfl (by decide) ?_
          refine q_icc3 (z := 7) rfl rfl rfl rfl rfl ?_
          refine q_goto rfl ?_
          refine q_iload_n rfl rfl rfl ?_
          refine q_bipush rfl rfl ?_
          refine q_icge rfl rfl (fun c121 => absurd c121 (by decide)) (fun c121 => ?_)
          refine q_aload_n rfl rfl rfl ?_
          refine q_getf rfl rfl (by decide) rfl rfl ?_
          refine q_iload_n rfl rfl rfl ?_
          refine q_aload_n rfl rfl rfl ?_
          refine q_getf rfl rfl (by decide) rfl rfl ?_
          refine q_iload_n rfl rfl rfl ?_
          refine q_iald rfl rfl (by decide) rfl (by decide) (q_tn (z := 0) rfl ?_)
          refine q_iast rfl rfl (by decide) rfl (by decide) ?_
          refine q_icc3 (z := 8) rfl rfl rfl rfl rfl ?_
          refine q_goto rfl ?_
          refine q_iload_n rfl rfl rfl ?_
          refine q_bipush rfl rfl ?_
          refine q_icge rfl rfl (fun c122 => absurd c122 (by decide)) (fun c122 => ?_)
          refine q_aload_n rfl rfl rfl ?_
          refine q_getf rfl rfl (by decide) rfl rfl ?_
          refine q_iload_n rfl rfl rfl ?_
          refine q_aload_n rfl rfl rfl ?_
          refine q_getf rfl rfl (by decide) rfl rfl ?_
          refine q_iload_n rfl rfl rfl ?_
          refine q_iald rfl rfl (by decide) rfl (by decide) (q_tn (z := 0) rfl ?_)
          refine q_iast rfl rfl (by decide) rfl (by decide) ?_
          refine q_icc3 (z := 9) rfl rfl rfl rfl rfl ?_
          refine q_goto rfl ?_
          refine q_iload_n rfl rfl rfl ?_
          refine q_bipush rfl rfl ?_
          refine q_icge rfl rfl (fun c123 => absurd c123 (by decide)) (fun c123 => ?_)
          refine q_aload_n rfl rfl rfl ?_
          refine q_getf rfl rfl (by decide) rfl rfl ?_
          refine q_iload_n rfl rfl rfl ?_
          refine q_aload_n rfl rfl rfl ?_
          refine q_getf rfl rfl (by decide) rfl rfl ?_
          refine q_iload_n rfl rfl rfl ?_
          refine q_iald rfl rfl (by decide) rfl (by decide) (q_tn (z := 0) rfl ?_)
          refine q_iast rfl rfl (by decide) rfl (by decide) ?_
          refine q_icc3 (z := 10) rfl rfl rfl rfl rfl ?_
          refine q_goto rfl ?_
          refine q_iload_n rfl rfl rfl ?_
          refine q_bipush rfl rfl ?_
          refine q_icge rfl rfl (fun c124 => absurd c124 (by decide)) (fun c124 => ?_)
          refine q_aload_n rfl rfl rfl ?_
          refine q_getf rfl rfl (by decide) rfl rfl ?_
          refine q_iload_n rfl rfl rfl ?_
          refine q_aload_n rfl rfl rfl ?_
          refine q_getf rfl rfl (by decide) rfl rfl ?_
          refine q_iload_n rfl rfl rfl ?_
          refine q_iald rfl rfl (by decide) rfl (by decide) (q_tn (z := 0) rfl ?_)
          refine q_iast rfl rfl (by decide) rfl (by decide) ?_
          refine q_icc3 (z := 11) rfl rfl rfl rfl rfl ?_
          refine q_goto rfl ?_
          refine q_iload_n rfl rfl rfl ?_
          refine q_bipush rfl rfl ?_
          refine q_icge rfl rfl (fun c125 => absurd c125 (by decide)) (fun c125 => ?_)
          refine q_aload_n rfl rfl rfl ?_
          refine q_getf rfl rfl (by decide) rfl rfl ?_
          refine q_iload_n rfl rfl rfl ?_
          refine q_aload_n rfl rfl rfl ?_
          refine q_getf rfl rfl (by decide) rfl rfl ?_
          refine q_iload_n rfl rfl rfl ?_
          refine q_iald rfl rfl (by decide) rfl (by decide) (q_tn (z := 0) rfl ?_)
          refine q_iast rfl rfl (by decide) rfl (by decide) ?_
          refine q_icc3 (z := 12) rfl rfl rfl rfl rfl ?_
          refine q_goto rfl ?_
          refine q_iload_n rfl rfl rfl ?_
          refine q_bipush rfl rfl ?_
          refine q_icge rfl rfl (fun c126 => absurd c126 (by decide)) (fun c126 => ?_)
          refine q_aload_n rfl rfl rfl ?_
          refine q_getf rfl rfl (by decide) rfl rfl ?_
          refine q_iload_n rfl rfl rfl ?_
          refine q_aload_n rfl rfl rfl ?_
          refine q_getf rfl rfl (by decide) rfl rfl ?_
          refine q_iload_n rfl rfl rfl ?_
          refine q_iald rfl rfl (by decide) rfl (by decide) (q_tn (z := 0) rfl ?_)
          refine q_iast rfl rfl (by decide) rfl (by decide) ?_
          refine q_icc3 (z := 13) rfl rfl rfl rfl rfl ?_
          refine q_goto rfl ?_
          refine q_iload_n rfl rfl rfl ?_
          refine q_bipush rfl rfl ?_
          refine q_icge rfl rfl (fun c127 => absurd c127 (by decide)) (fun c127 => ?_)
          refine q_aload_n rfl rfl rfl ?_
          refine q_getf rfl rfl (by decide) rfl rfl ?_
          refine q_iload_n rfl rfl rfl ?_
          refine q_aload_n rfl rfl rfl ?_
          refine q_getf rfl rfl (by decide) rfl rfl ?_
          refine q_iload_n rfl rfl rfl ?_
          refine q_iald rfl rfl (by decide) rfl (by decide) (q_tn (z := 0) rfl ?_)
          refine q_iast rfl rfl (by decide) rfl (by decide) ?_
          refine q_icc3 (z := 14) rfl rfl rfl rfl rfl ?_
          refine q_goto rfl ?_
          refine q_iload_n rfl rfl rfl ?_
          refine q_bipush rfl rfl ?_
          refine q_icge rfl rfl (fun c128 => absurd c128 (by decide)) (fun c128 => ?_)
          refine q_aload_n rfl rfl rfl ?_
          refine q_getf rfl rfl (by decide) rfl rfl ?_
          refine q_iload_n rfl rfl rfl ?_
          refine q_aload_n rfl rfl rfl ?_
          refine q_getf rfl rfl (by decide) rfl rfl ?_
          refine q_iload_n rfl rfl rfl ?_
          refine q_iald rfl rfl (by decide) rfl (by decide) (q_tn (z := 0) rfl ?_)
          refine q_iast rfl rfl (by decide) rfl (by decide) ?_
          refine q_icc3 (z := 15) rfl rfl rfl rfl rfl ?_
          refine q_goto rfl ?_
          refine q_iload_n rfl rfl rfl ?_
          refine q_bipush rfl rfl ?_
          refine q_icge rfl rfl (fun c129 => absurd c129 (by decide)) (fun c129 => ?_)
          refine q_aload_n rfl rfl rfl ?_
          refine q_getf rfl rfl (by decide) rfl rfl ?_
          refine q_iload_n rfl rfl rfl ?_
          refine q_aload_n rfl rfl rfl ?_
          refine q_getf rfl rfl (by decide) rfl rfl ?_
          refine q_iload_n rfl rfl rfl ?_
          refine q_iald rfl rfl (by decide) rfl (by decide) (q_tn (z := 0) rfl ?_)
          refine q_iast rfl rfl (by decide) rfl (by decide) ?_
          refine q_icc3 (z := 16) rfl rfl rfl rfl rfl ?_
          refine q_goto rfl ?_
          refine q_iload_n rfl rfl rfl ?_
          refine q_bipush rfl rfl ?_
          refine q_icge rfl rfl (fun c130 => absurd c130 (by decide)) (fun c130 => ?_)
          refine q_aload_n rfl rfl rfl ?_
          refine q_getf rfl rfl (by decide) rfl rfl ?_
          refine q_iload_n rfl rfl rfl ?_
          refine q_aload_n rfl rfl rfl ?_
          refine q_getf rfl rfl (by decide) rfl rfl ?_
          refine q_iload_n rfl rfl rfl ?_
          refine q_iald rfl rfl (by decide) rfl (by decide) (q_tn (z := 0) rfl ?_)
          refine q_iast rfl rfl (by decide) rfl (by decide) ?_
          refine q_icc3 (z := 17) rfl rfl rfl rfl rfl ?_
          refine q_goto rfl ?_
          refine q_iload_n rfl rfl rfl ?_
          refine q_bipush rfl rfl ?_
          refine q_icge rfl rfl (fun c131 => absurd c131 (by decide)) (fun c131 => ?_)
          refine q_aload_n rfl rfl rfl ?_
          refine q_getf rfl rfl (by decide) rfl rfl ?_
          refine q_iload_n rfl rfl rfl ?_
          refine q_aload_n rfl rfl rfl ?_
          refine q_getf rfl rfl (by decide) rfl rfl ?_
          refine q_iload_n rfl rfl rfl ?_
          refine q_iald rfl rfl (by decide) rfl (by decide) (q_tn (z := 0) rfl ?_)
          refine q_iast rfl rfl (by decide) rfl (by decide) ?_
          refine q_icc3 (z := 18) rfl rfl rfl rfl rfl ?_
          refine q_goto rfl ?_
          refine q_iload_n rfl rfl rfl ?_
          refine q_bipush rfl rfl ?_
          refine q_icge rfl rfl (fun c132 => absurd c132 (by decide)) (fun c132 => ?_)
          refine q_aload_n rfl rfl rfl ?_
          refine q_getf rfl rfl (by decide) rfl rfl ?_
          refine q_iload_n rfl rfl rfl ?_
          refine q_aload_n rfl rfl rfl ?_
          refine q_getf rfl rfl (by decide) rfl rfl ?_
          refine q_iload_n rfl rfl rfl ?_
          refine q_iald rfl rfl (by decide) rfl (by decide) (q_tn (z := 0) rfl ?_)
          refine q_iast rfl rfl (by decide) rfl (by decide) ?_
          refine q_icc3 (z := 19) rfl rfl rfl rfl rfl ?_
          refine q_goto rfl ?_
          refine q_iload_n rfl rfl rfl ?_
          refine q_bipush rfl rfl ?_
          refine q_icge rfl rfl (fun c133 => absurd c133 (by decide)) (fun c133 => ?_)
          refine q_aload_n rfl rfl rfl ?_
          refine q_getf rfl rfl (by decide) rfl rfl ?_
          refine q_iload_n rfl rfl rfl ?_
          refine q_aload_n rfl rfl rfl ?_
          refine q_getf rfl rfl (by decide) rfl rfl ?_
          refine q_iload_n rfl rfl rfl ?_
          refine q_iald rfl rfl (by decide) rfl (by decide) (q_tn (z := 0) rfl ?_)
          refine q_iast rfl rfl (by decide) rfl (by decide) ?_
          refine q_icc3 (z := 20) rfl rfl rfl rfl rfl ?_
          refine q_goto rfl ?_
          refine q_iload_n rfl rfl rfl ?_
          refine q_bipush rfl rfl ?_
          refine q_icge rfl rfl (fun c134 => ?_) (fun c134 => absurd (by decide) c134)
          refine q_aload_n rfl rfl rfl ?_
          refine q_iload_n rfl rfl rfl ?_
          refine q_iconst rfl rfl ?_
          refine q_iconst rfl rfl ?_
          refine q_nV3 rfl rfl (Or.inl rfl) rfl rfl rfl (by decide) rfl ⟨rfl, rfl⟩ rfl ?_
          change PQ _ _ _ mm_X12_put 0 [.ref 46, .int 0, .int (-1), .int (-1), pm_un, pm_un, pm_un] [] _ _ 0 0 _
          refine q_aload_n rfl rfl rfl ?_
          refine q_getf rfl rfl (by decide) rfl rfl ?_
          refine q_iload_n rfl rfl rfl ?_
          refine q_iald rfl rfl (by decide) rfl (by decide) (q_tn (z := 0) rfl ?_)
          refine q_ist4 rfl rfl rfl rfl ?_
          refine q_iload rfl rfl rfl ?_
          refine q_sipush rfl rfl ?_
          refine q_icne rfl rfl (fun c135 => absurd c135 (by decide)) (fun c135 => ?_)
          refine q_sipush rfl rfl ?_
          refine q_iload_n rfl rfl rfl ?_
          refine q_imul rfl rfl (q_tn (z := 0) rfl ?_)
          refine q_iload rfl rfl rfl ?_
          refine q_iadd rfl rfl (q_tn (z := 0) rfl ?_)
          refine q_ist5 rfl rfl rfl rfl ?_
          refine q_iconst rfl rfl ?_
          refine q_ist6 rfl rfl rfl rfl ?_
          refine q_iload rfl rfl rfl ?_
          refine q_bipush rfl rfl ?_
          refine q_icge rfl rfl (fun c136 => absurd c136 (by decide)) (fun c136 => ?_)
          refine q_aload_n rfl rfl rfl ?_
          refine q_getf rfl rfl (by decide) rfl rfl ?_
          refine q_bipush rfl rfl ?_
          refine q_iload rfl rfl rfl ?_
          refine q_imul rfl rfl (q_tn (z := 0) rfl ?_)
          refine q_iload rfl rfl rfl ?_
          refine q_iadd rfl rfl (q_tn (z := 0) rfl ?_)
          refine q_aload_n rfl rfl rfl ?_
          refine q_getf rfl rfl (by decide) rfl rfl ?_
          refine q_iload rfl rfl rfl ?_
          refine q_iald rfl rfl (by decide) rfl (by decide) (q_tn (z := 10) rfl ?_)
          refine q_iast rfl rfl (by decide) (FW_55 S hW) (by decide) ?_
          refine q_icc6 (z := 1) rfl rfl rfl rfl rfl ?_
          refine q_goto rfl ?_
          refine q_iload rfl rfl rfl ?_
          refine q_bipush rfl rfl ?_
          refine q_icge rfl rfl (fun c137 => absurd c137 (by decide)) (fun c137 => ?_)
          refine q_aload_n rfl rfl rfl ?_
          refine q_getf rfl rfl (by decide) rfl rfl ?_
          refine q_bipush rfl rfl ?_
          refine q_iload rfl rfl rfl ?_
          refine q_imul rfl rfl (q_tn (z := 0) rfl ?_)
          refine q_iload rfl rfl rfl ?_
          refine q_iadd rfl rfl (q_tn (z := 1) rfl ?_)
          refine q_aload_n rfl rfl rfl ?_
          refine q_getf rfl rfl (by decide) rfl rfl ?_
          refine q_iload rfl rfl rfl ?_
          refine q_iald rfl rfl (by decide) rfl (by decide) (q_tn (z := 0) rfl ?_)
          refine q_iast rfl rfl (by decide) rfl (by decide) ?_
          refine q_icc6 (z := 2) rfl rfl rfl rfl rfl ?_
          refine q_goto rfl ?_
          refine q_iload rfl rfl rfl ?_
          refine q_bipush rfl rfl ?_
          refine q_icge rfl rfl (fun c138 => absurd c138 (by decide)) (fun c138 => ?_)
          refine q_aload_n rfl rfl rfl ?_
          refine q_getf rfl rfl (by decide) rfl rfl ?_
          refine q_bipush rfl rfl ?_
          refine q_iload rfl rfl rfl ?_
          refine q_imul rfl rfl (q_tn (z := 0) rfl ?_)
          refine q_iload rfl rfl rfl ?_
          refine q_iadd rfl rfl (q_tn (z := 2) rfl ?_)
          refine q_aload_n rfl rfl rfl ?_
          refine q_getf rfl rfl (by decide) rfl rfl ?_
          refine q_iload rfl rfl rfl ?_
          refine q_iald rfl rfl (by decide) rfl (by decide) (q_tn (z := 0) rfl ?_)
          refine q_iast rfl rfl (by decide) rfl (by decide) ?_
          refine q_icc6 (z := 3) rfl rfl rfl rfl rfl ?_
          refine q_goto rfl ?_
          refine q_iload rfl rfl rfl ?_
          refine q_bipush rfl rfl ?_
          refine q_icge rfl rfl (fun c139 => absurd c139 (by decide)) (fun c139 => ?_)
          refine q_aload_n rfl rfl rfl ?_
          refine q_getf rfl rfl (by decide) rfl rfl ?_
          refine q_bipush rfl rfl ?_
          refine q_iload rfl rfl rfl ?_
          refine q_imul rfl rfl (q_tn (z := 0) rfl ?_)
          refine q_iload rfl rfl rfl ?_
          refine q_iadd rfl rfl (q_tn (z := 3) rfl ?_)
          refine q_aload_n rfl rfl rfl ?_
          refine q_getf rfl rfl (by decide) rfl rfl ?_
          refine q_iload rfl rfl rfl ?_
          refine q_iald rfl rfl (by decide) rfl (by decide) (q_tn (z := 0) rfl ?_)
          refine q_iast rfl rfl (by decide) rfl (by decide) ?_
          refine q_icc6 (z := 4) rfl rfl rfl rfl rfl ?_
          refine q_goto rfl ?_
          refine q_iload rfl rfl rfl ?_
          refine q_bipush rfl rfl ?_
          refine q_icge rfl rfl (fun c140 => absurd c140 (by decide)) (fun c140 => ?_)
          refine q_aload_n rfl rfl rfl ?_
          refine q_getf rfl rfl (by decide) rfl rfl ?_
          refine q_bipush rfl rfl ?_
          refine q_iload rfl rfl rfl ?_
          refine q_imul rfl rfl (q_tn (z := 0) rfl ?_)
          refine q_iload rfl rfl rfl ?_
          refine q_iadd rfl rfl (q_tn (z := 4) rfl ?_)
          refine q_aload_n rfl rfl rfl ?_
          refine q_getf rfl rfl (by decide) rfl rfl ?_
          refine q_iload rfl rfl rfl ?_
          refine q_iald rfl rfl (by decide) rfl (by decide) (q_tn (z := 0) rfl ?_)
          refine q_iast rfl rfl (by decide) rfl (by decide) ?_
          refine q_icc6 (z := 5) rfl rfl rfl rfl rfl ?_
          refine q_goto rfl ?_
          refine q_iload rfl rfl rfl ?_
          refine q_bipush rfl rfl ?_
          refine q_icge rfl rfl (fun c141 => absurd c141 (by decide)) (fun c141 => ?_)
          refine q_aload_n rfl rfl rfl ?_
          refine q_getf rfl rfl (by decide) rfl rfl ?_
          refine q_bipush rfl rfl ?_
          refine q_iload rfl rfl rfl ?_
          refine q_imul rfl rfl (q_tn (z := 0) rfl ?_)
          refine q_iload rfl rfl rfl ?_
          refine q_iadd rfl rfl (q_tn (z := 5) rfl ?_)
          refine q_aload_n rfl rfl rfl ?_
          refine q_getf rfl rfl (by decide) rfl rfl ?_
          refine q_iload rfl rfl rfl ?_
          refine q_iald rfl rfl (by decide) rfl (by decide) (q_tn (z := 0) rfl ?_)
          refine q_iast rfl rfl (by decide) rfl (by decide) ?_
          refine q_icc6 (z := 6) rfl rfl rfl rfl rfl ?_
          refine q_goto rfl ?_
          refine q_iload rfl rfl rfl ?_
          refine q_bipush rfl rfl ?_
          refine q_icge rfl rfl (fun c142 => absurd c142 (by decide)) (fun c142 => ?_)
          refine q_aload_n rfl rfl rfl ?_
          refine q_getf rfl rfl (by decide) rfl rfl ?_
          refine q_bipush rfl rfl ?_
          refine q_iload rfl rfl rfl ?_
          refine q_imul rfl rfl (q_tn (z := 0) rfl ?_)
          refine q_iload rfl rfl rfl ?_
          refine q_iadd rfl rfl (q_tn (z := 6) rfl ?_)
          refine q_aload_n rfl rfl rfl ?_
          refine q_getf rfl rfl (by decide) rfl rfl ?_
          refine q_iload rfl rfl rfl ?_
          refine q_iald rfl rfl (by decide) rfl (by decide) (q_tn (z := 0) rfl ?_)
          refine q_iast rfl rfl (by decide) rfl (by decide) ?_
          refine q_icc6 (z := 7) rfl rfl rfl rfl rfl ?_
          refine q_goto rfl ?_
          refine q_iload rfl rfl rfl ?_
          refine q_bipush rfl rfl ?_
          refine q_icge rfl rfl (fun c143 => absurd c143 (by decide)) (fun c143 => ?_)
          refine q_aload_n rfl rfl rfl ?_
          refine q_getf rfl rfl (by decide) rfl rfl ?_
          refine q_bipush rfl rfl ?_
          refine q_iload rfl rfl rfl ?_
          refine q_imul rfl rfl (q_tn (z := 0) rfl ?_)
          refine q_iload rfl rfl rfl ?_
          refine q_iadd rfl rfl (q_tn (z := 7) rfl ?_)
          refine q_aload_n rfl rfl rfl ?_
          refine q_getf rfl rfl (by decide) rfl rfl ?_
          refine q_iload rfl rfl rfl ?_
          refine q_iald rfl rfl (by decide) rfl (by decide) (q_tn (z := 0) rfl ?_)
          refine q_iast rfl rfl (by decide) rfl (by decide) ?_
          refine q_icc6 (z := 8) rfl rfl rfl rfl rfl ?_
          refine q_goto rfl ?_
          refine q_iload rfl rfl rfl ?_
          refine q_bipush rfl rfl ?_
          refine q_icge rfl rfl (fun c144 => absurd c144 (by decide)) (fun c144 => ?_)
          refine q_aload_n rfl rfl rfl ?_
          refine q_getf rfl rfl (by decide) rfl rfl ?_
          refine q_bipush rfl rfl ?_
          refine q_iload rfl rfl rfl ?_
          refine q_imul rfl rfl (q_tn (z := 0) rfl ?_)
          refine q_iload rfl rfl rfl ?_
          refine q_iadd rfl rfl (q_tn (z := 8) rfl ?_)
          refine q_aload_n rfl rfl rfl ?_
          refine q_getf rfl rfl (by decide) rfl rfl ?_
          refine q_iload rfl rfl rfl ?_
          refine q_iald rfl rfl (by decide) rfl (by decide) (q_tn (z := 0) rfl ?_)
          refine q_iast rfl rfl (by decide) rfl (by decide) ?_
          refine q_icc6 (z := 9) rfl rfl rfl rfl rfl ?_
          refine q_goto rfl ?_
          refine q_iload rfl rfl rfl ?_
          refine q_bipush rfl rfl ?_
          refine q_icge rfl rfl (fun c145 => absurd c145 (by decide)) (fun c145 => ?_)
          refine q_aload_n rfl rfl rfl ?_
          refine q_getf rfl rfl (by decide) rfl rfl ?_
          refine q_bipush rfl rfl ?_
          refine q_iload rfl rfl rfl ?_
          refine q_imul rfl rfl (q_tn (z := 0) rfl ?_)
          refine q_iload rfl rfl rfl ?_
          refine q_iadd rfl rfl (q_tn (z := 9) rfl ?_)
          refine q_aload_n rfl rfl rfl ?_
          refine q_getf rfl rfl (by decide) rfl rfl ?_
          refine q_iload rfl rfl rfl ?_
          refine q_iald rfl rfl (by decide) rfl (by decide) (q_tn (z := 0) rfl ?_)
          refine q_iast rfl rfl (by decide) rfl (by decide) ?_
          refine q_icc6 (z := 10) rfl rfl rfl rfl rfl ?_
          refine q_goto rfl ?_
          refine q_iload rfl rfl rfl ?_
          refine q_bipush rfl rfl ?_
          refine q_icge rfl rfl (fun c146 => absurd c146 (by decide)) (fun c146 => ?_)
          refine q_aload_n rfl rfl rfl ?_
          refine q_getf rfl rfl (by decide) rfl rfl ?_
          refine q_bipush rfl rfl ?_
          refine q_iload rfl rfl rfl ?_
          refine q_imul rfl rfl (q_tn (z := 0) rfl ?_)
          refine q_iload rfl rfl rfl ?_
          refine q_iadd rfl rfl (q_tn (z := 10) rfl ?_)
          refine q_aload_n rfl rfl rfl ?_
          refine q_getf rfl rfl (by decide) rfl rfl ?_
          refine q_iload rfl rfl rfl ?_
          refine q_iald rfl rfl (by decide) rfl (by decide) (q_tn (z := 0) rfl ?_)
          refine q_iast rfl rfl (by decide) rfl (by decide) ?_
          refine q_icc6 (z := 11) rfl rfl rfl rfl rfl ?_
          refine q_goto rfl ?_
          refine q_iload rfl rfl rfl ?_
          refine q_bipush rfl rfl ?_
          refine q_icge rfl rfl (fun c147 => absurd c147 (by decide)) (fun c147 => ?_)
          refine q_aload_n rfl rfl rfl ?_
          refine q_getf rfl rfl (by decide) rfl rfl ?_
          refine q_bipush rfl rfl ?_
          refine q_iload rfl rfl rfl ?_
          refine q_imul rfl rfl (q_tn (z := 0) rfl ?_)
          refine q_iload rfl rfl rfl ?_
          refine q_iadd rfl rfl (q_tn (z := 11) rfl ?_)
          refine q_aload_n rfl rfl rfl ?_
          refine q_getf rfl rfl (by decide) rfl rfl ?_
          refine q_iload rfl rfl rfl ?_
          refine q_iald rfl rfl (by decide) rfl (by decide) (q_tn (z := 0) rfl ?_)
          refine q_iast rfl rfl (by decide) rfl (by decide) ?_
          refine q_icc6 (z := 12) rfl rfl rfl rfl rfl ?_
          refine q_goto rfl ?_
          refine q_iload rfl rfl rfl ?_
          refine q_bipush rfl rfl ?_
          refine q_icge rfl rfl (fun c148 => absurd c148 (by decide)) (fun c148 => ?_)
          refine q_aload_n rfl rfl rfl ?_
          refine q_getf rfl rfl (by decide) rfl rfl ?_
          refine q_bipush rfl rfl ?_
          refine q_iload rfl rfl rfl ?_
          refine q_imul rfl rfl (q_tn (z := 0) rfl ?_)
          refine q_iload rfl rfl rfl ?_
          refine q_iadd rfl rfl (q_tn (z := 12) rfl ?_)
          refine q_aload_n rfl rfl rfl ?_
          refine q_getf rfl rfl (by decide) rfl rfl ?_
          refine q_iload rfl rfl rfl ?_
          refine q_iald rfl rfl (by decide) rfl (by decide) (q_tn (z := 0) rfl ?_)
          refine q_iast rfl rfl (by decide) rfl (by decide) ?_
          refine q_icc6 (z := 13) rfl rfl rfl rfl rfl ?_
          refine q_goto rfl ?_
          refine q_iload rfl rfl rfl ?_
          refine q_bipush rfl rfl ?_
          refine q_icge rfl rfl (fun c149 => absurd c149 (by decide)) (fun c149 => ?_)
          refine q_aload_n rfl rfl rfl ?_
          refine q_getf rfl rfl (by decide) rfl rfl ?_
          refine q_bipush rfl rfl ?_
          refine q_iload rfl rfl rfl ?_
          refine q_imul rfl rfl (q_tn (z := 0) rfl ?_)
          refine q_iload rfl rfl rfl ?_
          refine q_iadd rfl rfl (q_tn (z := 13) rfl ?_)
          refine q_aload_n rfl rfl rfl ?_
          refine q_getf rfl rfl (by decide) rfl rfl ?_
          refine q_iload rfl rfl rfl ?_
          refine q_iald rfl rfl (by decide) rfl (by decide) (q_tn (z := 0) rfl ?_)
          refine q_iast rfl rfl (by decide) rfl (by decide) ?_
          refine q_icc6 (z := 14) rfl rfl rfl rfl rfl ?_
          refine q_goto rfl ?_
          refine q_iload rfl rfl rfl ?_
          refine q_bipush rfl rfl ?_
          refine q_icge rfl rfl (fun c150 => absurd c150 (by decide)) (fun c150 => ?_)
          refine q_aload_n rfl rfl rfl ?_
          refine q_getf rfl rfl (by decide) rfl rfl ?_
          refine q_bipush rfl rfl ?_
          refine q_iload rfl rfl rfl ?_
          refine q_imul rfl rfl (q_tn (z := 0) rfl ?_)
          refine q_iload rfl rfl rfl ?_
          refine q_iadd rfl rfl (q_tn (z := 14) rfl ?_)
          refine q_aload_n rfl rfl rfl ?_
          refine q_getf rfl rfl (by decide) rfl rfl ?_
          refine q_iload rfl rfl rfl ?_
          refine q_iald rfl rfl (by decide) rfl (by decide) (q_tn (z := 0) rfl ?_)
          refine q_iast rfl rfl (by decide) rfl (by decide) ?_
          refine q_icc6 (z := 15) rfl rfl rfl rfl rfl ?_
          refine q_goto rfl ?_
          refine q_iload rfl rfl rfl ?_
          refine q_bipush rfl rfl ?_
          refine q_icge rfl rfl (fun c151 => absurd c151 (by decide)) (fun c151 => ?_)
          refine q_aload_n rfl rfl rfl ?_
          refine q_getf rfl rfl (by decide) rfl rfl ?_
          refine q_bipush rfl rfl ?_
          refine q_iload rfl rfl rfl ?_
          refine q_imul rfl rfl (q_tn (z := 0) rfl ?_)
          refine q_iload rfl rfl rfl ?_
          refine q_iadd rfl rfl (q_tn (z := 15) rfl ?_)
          refine q_aload_n rfl rfl rfl ?_
          refine q_getf rfl rfl (by decide) rfl rfl ?_
          refine q_iload rfl rfl rfl ?_
          refine q_iald rfl rfl (by decide) rfl (by decide) (q_tn (z := 0) rfl ?_)
          refine q_iast rfl rfl (by decide) rfl (by decide) ?_
          refine q_icc6 (z := 16) rfl rfl rfl rfl rfl ?_
          refine q_goto rfl ?_
          refine q_iload rfl rfl rfl ?_
          refine q_bipush rfl rfl ?_
          refine q_icge rfl rfl (fun c152 => absurd c152 (by decide)) (fun c152 => ?_)
          refine q_aload_n rfl rfl rfl ?_
          refine q_getf rfl rfl (by decide) rfl rfl ?_
          refine q_bipush rfl rfl ?_
          refine q_iload rfl rfl rfl ?_
          refine q_imul rfl rfl (q_tn (z := 0) rfl ?_)
          refine q_iload rfl rfl rfl ?_
          refine q_iadd rfl rfl (q_tn (z := 16) rfl ?_)
          refine q_aload_n rfl rfl rfl ?_
          refine q_getf rfl rfl (by decide) rfl rfl ?_
          refine q_iload rfl rfl rfl ?_
          refine q_iald rfl rfl (by decide) rfl (by decide) (q_tn (z := 0) rfl ?_)
          refine q_iast rfl rfl (by decide) rfl (by decide) ?_
          refine q_icc6 (z := 17) rfl rfl rfl rfl rfl ?_
          refine q_goto rfl ?_
          refine q_iload rfl rfl rfl ?_
          refine q_bipush rfl rfl ?_
          refine q_icge rfl rfl (fun c153 => absurd c153 (by decide)) (fun c153 => ?_)
          refine q_aload_n rfl rfl rfl ?_
          refine q_getf rfl rfl (by decide) rfl rfl ?_
          refine q_bipush rfl rfl ?_
          refine q_iload rfl rfl rfl ?_
          refine q_imul rfl rfl (q_tn (z := 0) rfl ?_)
          refine q_iload rfl rfl rfl ?_
          refine q_iadd rfl rfl (q_tn (z := 17) rfl ?_)
          refine q_aload_n rfl rfl rfl ?_
          refine q_getf rfl rfl (by decide) rfl rfl ?_
          refine q_iload rfl rfl rfl ?_
          refine q_iald rfl rfl (by decide) rfl (by decide) (q_tn (z := 0) rfl ?_)
          refine q_iast rfl rfl (by decide) rfl (by decide) ?_
          refine q_icc6 (z := 18) rfl rfl rfl rfl rfl ?_
          refine q_goto rfl ?_
          refine q_iload rfl rfl rfl ?_
          refine q_bipush rfl rfl ?_
          refine q_icge rfl rfl (fun c154 => absurd c154 (by decide)) (fun c154 => ?_)
          refine q_aload_n rfl rfl rfl ?_
          refine q_getf rfl rfl (by decide) rfl rfl ?_
          refine q_bipush rfl rfl ?_
          refine q_iload rfl rfl rfl ?_
          refine q_imul rfl rfl (q_tn (z := 0) rfl ?_)
          refine q_iload rfl rfl rfl ?_
          refine q_iadd rfl rfl (q_tn (z := 18) rfl ?_)
          refine q_aload_n rfl rfl rfl ?_
          refine q_getf rfl rfl (by decide) rfl rfl ?_
          refine q_iload rfl rfl rfl ?_
          refine q_iald rfl rfl (by decide) rfl (by decide) (q_tn (z := 0) rfl ?_)
          refine q_iast rfl rfl (by decide) rfl (by decide) ?_
          refine q_icc6 (z := 19) rfl rfl rfl rfl rfl ?_
          refine q_goto rfl ?_
          refine q_iload rfl rfl rfl ?_
          refine q_bipush rfl rfl ?_
          refine q_icge rfl rfl (fun c155 => absurd c155 (by decide)) (fun c155 => ?_)
          refine q_aload_n rfl rfl rfl ?_
          refine q_getf rfl rfl (by decide) rfl rfl ?_
          refine q_bipush rfl rfl ?_
          refine q_iload rfl rfl rfl ?_
          refine q_imul rfl rfl (q_tn (z := 0) rfl ?_)
          refine q_iload rfl rfl rfl ?_
          refine q_iadd rfl rfl (q_tn (z := 19) rfl ?_)
          refine q_aload_n rfl rfl rfl ?_
          refine q_getf rfl rfl (by decide) rfl rfl ?_
          refine q_iload rfl rfl rfl ?_
          refine q_iald rfl rfl (by decide) rfl (by decide) (q_tn (z := 0) rfl ?_)
          refine q_iast rfl rfl (by decide) rfl (by decide) ?_
          refine q_icc6 (z := 20) rfl rfl rfl rfl rfl ?_
          refine q_goto rfl ?_
          refine q_iload rfl rfl rfl ?_
          refine q_bipush rfl rfl ?_
          refine q_icge rfl rfl (fun c156 => ?_) (fun c156 => absurd (by decide) c156)
          refine q_aload_n rfl rfl rfl ?_
          refine q_getf rfl rfl (by decide) rfl rfl ?_
          refine q_iload rfl rfl rfl ?_
          refine q_iload_n rfl rfl rfl ?_
          refine q_iast rfl rfl (by decide) (FW_56 S hW) (by decide) ?_
          refine q_aload_n rfl rfl rfl ?_
          refine q_getf rfl rfl (by decide) rfl rfl ?_
          refine q_iload rfl rfl rfl ?_
          refine q_iload_n rfl rfl rfl ?_
          refine q_iast rfl rfl (by decide) (FW_57 S hW) (by decide) ?_
          refine q_aload_n rfl rfl rfl ?_
          refine q_iload_n rfl rfl rfl ?_
          refine q_nV1 rfl rfl (Or.inl rfl) rfl rfl rfl (by decide) rfl ⟨rfl, rfl⟩ rfl ?_
          change PQ _ _ _ mm_X12_rest 0 [.ref 46, .int 0, pm_un, pm_un] [] _ _ 0 0 _
          refine q_bipush rfl rfl ?_
          refine q_ist2n rfl rfl rfl rfl ?_
          refine q_iconst rfl rfl ?_
          refine q_ist3n rfl rfl rfl rfl ?_
          refine q_iload_n rfl rfl rfl ?_
          refine q_bipush rfl rfl ?_
          refine q_icge rfl rfl (fun c157 => absurd c157 (by decide)) (fun c157 => ?_)
          refine q_bipush rfl rfl ?_
          refine q_iload_n rfl rfl rfl ?_
          refine q_imul rfl rfl (q_tn (z := 527) rfl ?_)
          refine q_aload_n rfl rfl rfl ?_
          refine q_getf rfl rfl (by decide) rfl rfl ?_
          refine q_iload_n rfl rfl rfl ?_
          refine q_iald rfl rfl (by decide) rfl (by decide) (q_tn (z := 10) rfl ?_)
          refine q_iadd rfl rfl (q_tn (z := 537) rfl ?_)
          refine q_ist2n rfl rfl rfl rfl ?_
          refine q_icc3 (z := 1) rfl rfl rfl rfl rfl ?_
          refine q_goto rfl ?_
          refine q_iload_n rfl rfl rfl ?_
          refine q_bipush rfl rfl ?_
          refine q_icge rfl rfl (fun c158 => absurd c158 (by decide)) (fun c158 => ?_)
          refine q_bipush rfl rfl ?_
          refine q_iload_n rfl rfl rfl ?_
          refine q_imul rfl rfl (q_tn (z := 16647) rfl ?_)
          refine q_aload_n rfl rfl rfl ?_
          refine q_getf rfl rfl (by decide) rfl rfl ?_
          refine q_iload_n rfl rfl rfl ?_
          refine q_iald rfl rfl (by decide) rfl (by decide) (q_tn (z := 0) rfl ?_)
          refine q_iadd rfl rfl (q_tn (z := 16647) rfl ?_)
          refine q_ist2n rfl rfl rfl rfl ?_
          refine q_icc3 (z := 2) rfl rfl rfl rfl rfl ?_
          refine q_goto rfl ?_
          refine q_iload_n rfl rfl rfl ?_
          refine q_bipush rfl rfl ?_
          refine q_icge rfl rfl (fun c159 => absurd c159 (by decide)) (fun c159 => ?_)
          refine q_bipush rfl rfl ?_
          refine q_iload_n rfl rfl rfl ?_
          refine q_imul rfl rfl (q_tn (z := 516057) rfl ?_)
          refine q_aload_n rfl rfl rfl ?_
          refine q_getf rfl rfl (by decide) rfl rfl ?_
          refine q_iload_n rfl rfl rfl ?_
          refine q_iald rfl rfl (by decide) rfl (by decide) (q_tn (z := 0) rfl ?_)
          refine q_iadd rfl rfl (q_tn (z := 516057) rfl ?_)
          refine q_ist2n rfl rfl rfl rfl ?_
          refine q_icc3 (z := 3) rfl rfl rfl rfl rfl ?_
          refine q_goto rfl ?_
          refine q_iload_n rfl rfl rfl ?_
          refine q_bipush rfl rfl ?_
          refine q_icge rfl rfl (fun c160 => absurd c160 (by decide)) (fun c160 => ?_)
          refine q_bipush rfl rfl ?_
          refine q_iload_n rfl rfl rfl ?_
          refine q_imul rfl rfl (q_tn (z := 15997767) rfl ?_)
          refine q_aload_n rfl rfl rfl ?_
          refine q_getf rfl rfl (by decide) rfl rfl ?_
          refine q_iload_n rfl rfl rfl ?_
          refine q_iald rfl rfl (by decide) rfl (by decide) (q_tn (z := 0) rfl ?_)
          refine q_iadd rfl rfl (q_tn (z := 15997767) rfl ?_)
          refine q_ist2n rfl rfl rfl rfl ?_
          refine q_icc3 (z := 4) rfl rfl rfl rfl rfl ?_
          refine q_goto rfl ?_
          refine q_iload_n rfl rfl rfl ?_
          refine q_bipush rfl rfl ?_
          refine q_icge rfl rfl (fun c161 => absurd c161 (by decide)) (fun c161 => ?_)
          refine q_bipush rfl rfl ?_
          refine q_iload_n rfl rfl rfl ?_
          refine q_imul rfl rfl (q_tn (z := 495930777) rfl ?_)
          refine q_aload_n rfl rfl rfl ?_
          refine q_getf rfl rfl (by decide) rfl rfl ?_
          refine q_iload_n rfl rfl rfl ?_
          refine q_iald rfl rfl (by decide) rfl (by decide) (q_tn (z := 0) rfl ?_)
          refine q_iadd rfl rfl (q_tn (z := 495930777) rfl ?_)
          refine q_ist2n rfl rfl rfl rfl ?_
          refine q_icc3 (z := 5) rfl rfl rfl rfl rfl ?_
          refine q_goto rfl ?_
          refine q_iload_n rfl rfl rfl ?_
          refine q_bipush rfl rfl ?_
          refine q_icge rfl rfl (fun c162 => absurd c162 (by decide)) (fun c162 => ?_)
          refine q_bipush rfl rfl ?_
          refine q_iload_n rfl rfl rfl ?_
          refine q_imul rfl rfl (q_tn (z := (-1806015097)) rfl ?_)
          refine q_aload_n rfl rfl rfl ?_
          refine q_getf rfl rfl (by decide) rfl rfl ?_
          refine q_iload_n rfl rfl rfl ?_
          refine q_iald rfl rfl (by decide) rfl (by decide) (q_tn (z := 0) rfl ?_)
          refine q_iadd rfl rfl (q_tn (z := (-1806015097)) rfl ?_)
          refine q_ist2n rfl rfl rfl rfl ?_
          refine q_icc3 (z := 6) rfl rfl rfl rfl rfl ?_
          refine q_goto rfl ?_
          refine q_iload_n rfl rfl rfl ?_
          refine q_bipush rfl rfl ?_
          refine q_icge rfl rfl (fun c163 => absurd c163 (by decide)) (fun c163 => ?_)
          refine q_bipush rfl rfl ?_
          refine q_iload_n rfl rfl rfl ?_
          refine q_imul rfl rfl (q_tn (z := (-151893159)) rfl ?_)
          refine q_aload_n rfl rfl rfl ?_
          refine q_getf rfl rfl (by decide) rfl rfl ?_
          refine q_iload_n rfl rfl rfl ?_
          refine q_iald rfl rfl (by decide) rfl (by decide) (q_tn (z := 0) rfl ?_)
          refine q_iadd rfl rfl (q_tn (z := (-151893159)) rfl ?_)
          refine q_ist2n rfl rfl rfl rfl ?_
          refine q_icc3 (z := 7) rfl rfl rfl rfl rfl ?_
          refine q_goto rfl ?_
          refine q_iload_n rfl rfl rfl ?_
          refine q_bipush rfl rfl ?_
          refine q_icge rfl rfl (fun c164 => absurd c164 (by decide)) (fun c164 => ?_)
          refine q_bipush rfl rfl ?_
          refine q_iload_n rfl rfl rfl ?_
          refine q_imul rfl rfl (q_tn (z := (-413720633)) rfl ?_)
          refine q_aload_n rfl rfl rfl ?_
          refine q_getf rfl rfl (by decide) rfl rfl ?_
          refine q_iload_n rfl rfl rfl ?_
          refine q_iald rfl rfl (by decide) rfl (by decide) (q_tn (z := 0) rfl ?_)
          refine q_iadd rfl rfl (q_tn (z := (-413720633)) rfl ?_)
          refine q_ist2n rfl rfl rfl rfl ?_
          refine q_icc3 (z := 8) rfl rfl rfl rfl rfl ?_
          refine q_goto rfl ?_
          refine q_iload_n rfl rfl rfl ?_
          refine q_bipush rfl rfl ?_
          refine q_icge rfl rfl (fun c165 => absurd c165 (by decide)) (fun c165 => ?_)
          refine q_bipush rfl rfl ?_
          refine q_iload_n rfl rfl rfl ?_
          refine q_imul rfl rfl (q_tn (z := 59562265) rfl ?_)
          refine q_aload_n rfl rfl rfl ?_
          refine q_getf rfl rfl (by decide) rfl rfl ?_
          refine q_iload_n rfl rfl rfl ?_
          refine q_iald rfl rfl (by decide) rfl (by decide) (q_tn (z := 0) rfl ?_)
          refine q_iadd rfl rfl (q_tn (z := 59562265) rfl ?_)
          refine q_ist2n rfl rfl rfl rfl ?_
          refine q_icc3 (z := 9) rfl rfl rfl rfl rfl ?_
          refine q_goto rfl ?_
          refine q_iload_n rfl rfl rfl ?_
          refine q_bipush rfl rfl ?_
          refine q_icge rfl rfl (fun c166 => absurd c166 (by decide)) (fun c166 => ?_)
          refine q_bipush rfl rfl ?_
          refine q_iload_n rfl rfl rfl ?_
          refine q_imul rfl rfl (q_tn (z := 1846430215) rfl ?_)
          refine q_aload_n rfl rfl rfl ?_
          refine q_getf rfl rfl (by decide) rfl rfl ?_
          refine q_iload_n rfl rfl rfl ?_
          refine q_iald rfl rfl (by decide) rfl (by decide) (q_tn (z := 0) rfl ?_)
          refine q_iadd rfl rfl (q_tn (z := 1846430215) rfl ?_)
          refine q_ist2n rfl rfl rfl rfl ?_
          refine q_icc3 (z := 10) rfl rfl rfl rfl rfl ?_
          refine q_goto rfl ?_
          refine q_iload_n rfl rfl rfl ?_
          refine q_bipush rfl rfl ?_
          refine q_icge rfl rfl (fun c167 => absurd c167 (by decide)) (fun c167 => ?_)
          refine q_bipush rfl rfl ?_
          refine q_iload_n rfl rfl rfl ?_
          refine q_imul rfl rfl (q_tn (z := 1404761817) rfl ?_)
          refine q_aload_n rfl rfl rfl ?_
          refine q_getf rfl rfl (by decide) rfl rfl ?_
          refine q_iload_n rfl rfl rfl ?_
          refine q_iald rfl rfl (by decide) rfl (by decide) (q_tn (z := 0) rfl ?_)
          refine q_iadd rfl rfl (q_tn (z := 1404761817) rfl ?_)
          refine q_ist2n rfl rfl rfl rfl ?_
          refine q_icc3 (z := 11) rfl rfl rfl rfl rfl ?_
          refine q_goto rfl ?_
          refine q_iload_n rfl rfl rfl ?_
          refine q_bipush rfl rfl ?_
          refine q_icge rfl rfl (fun c168 => absurd c168 (by decide)) (fun c168 => ?_)
          refine q_bipush rfl rfl ?_
          refine q_iload_n rfl rfl rfl ?_
          refine q_imul rfl rfl (q_tn (z := 597943367) rfl ?_)
          refine q_aload_n rfl rfl rfl ?_
          refine q_getf rfl rfl (by decide) rfl rfl ?_
          refine q_iload_n rfl rfl rfl ?_
          refine q_iald rfl rfl (by decide) rfl (by decide) (q_tn (z := 0) rfl ?_)
          refine q_iadd rfl rfl (q_tn (z := 597943367) rfl ?_)
          refine q_ist2n rfl rfl rfl rfl ?_
          refine q_icc3 (z := 12) rfl rfl rfl rfl rfl ?_
          refine q_goto rfl ?_
          refine q_iload_n rfl rfl rfl ?_
          refine q_bipush rfl rfl ?_
          refine q_icge rfl rfl (fun c169 => absurd c169 (by decide)) (fun c169 => ?_)
          refine q_bipush rfl rfl ?_
          refine q_iload_n rfl rfl rfl ?_
          refine q_imul rfl rfl (q_tn (z := 1356375193) rfl ?_)
          refine q_aload_n rfl rfl rfl ?_
          refine q_getf rfl rfl (by decide) rfl rfl ?_
          refine q_iload_n rfl rfl rfl ?_
          refine q_iald rfl rfl (by decide) rfl (by decide) (q_tn (z := 0) rfl ?_)
          refine q_iadd rfl rfl (q_tn (z := 1356375193) rfl ?_)
          refine q_ist2n rfl rfl rfl rfl ?_
          refine q_icc3 (z := 13) rfl rfl rfl rfl rfl ?_
          refine q_goto rfl ?_
          refine q_iload_n rfl rfl rfl ?_
          refine q_bipush rfl rfl ?_
          refine q_icge rfl rfl (fun c170 => absurd c170 (by decide)) (fun c170 => ?_)
          refine q_bipush rfl rfl ?_
          refine q_iload_n rfl rfl rfl ?_
          refine q_imul rfl rfl (q_tn (z := (-902041977)) rfl ?_)
          refine q_aload_n rfl rfl rfl ?_
          refine q_getf rfl rfl (by decide) rfl rfl ?_
          refine q_iload_n rfl rfl rfl ?_
          refine q_iald rfl rfl (by decide) rfl (by decide) (q_tn (z := 0) rfl ?_)
          refine q_iadd rfl rfl (q_tn (z := (-902041977)) rfl ?_)
          refine q_ist2n rfl rfl rfl rfl ?_
          refine q_icc3 (z := 14) rfl rfl rfl rfl rfl ?_
          refine q_goto rfl ?_
          refine q_iload_n rfl rfl rfl ?_
          refine q_bipush rfl rfl ?_
          refine q_icge rfl rfl (fun c171 => absurd c171 (by decide)) (fun c171 => ?_)
          refine q_bipush rfl rfl ?_
          refine q_iload_n rfl rfl rfl ?_
          refine q_imul rfl rfl (q_tn (z := 2101469785) rfl ?_)
          refine q_aload_n rfl rfl rfl ?_
          refine q_getf rfl rfl (by decide) rfl rfl ?_
          refine q_iload_n rfl rfl rfl ?_
          refine q_iald rfl rfl (by decide) rfl (by decide) (q_tn (z := 0) rfl ?_)
          refine q_iadd rfl rfl (q_tn (z := 2101469785) rfl ?_)
          refine q_ist2n rfl rfl rfl rfl ?_
          refine q_icc3 (z := 15) rfl rfl rfl rfl rfl ?_
          refine q_goto rfl ?_
          refine q_iload_n rfl rfl rfl ?_
          refine q_bipush rfl rfl ?_
          refine q_icge rfl rfl (fun c172 => absurd c172 (by decide)) (fun c172 => ?_)
          refine q_bipush rfl rfl ?_
          refine q_iload_n rfl rfl rfl ?_
          refine q_imul rfl rfl (q_tn (z := 721053895) rfl ?_)
          refine q_aload_n rfl rfl rfl ?_
          refine q_getf rfl rfl (by decide) rfl rfl ?_
          refine q_iload_n rfl rfl rfl ?_
          refine q_iald rfl rfl (by decide) rfl (by decide) (q_tn (z := 0) rfl ?_)
          refine q_iadd rfl rfl (q_tn (z := 721053895) rfl ?_)
          refine q_ist2n rfl rfl rfl rfl ?_
          refine q_icc3 (z := 16) rfl rfl rfl rfl rfl ?_
          refine q_goto rfl ?_
          refine q_iload_n rfl rfl rfl ?_
          refine q_bipush rfl rfl ?_
          refine q_icge rfl rfl (fun c173 => absurd c173 (by decide)) (fun c173 => ?_)
          refine q_bipush rfl rfl ?_
          refine q_iload_n rfl rfl rfl ?_
          refine q_imul rfl rfl (q_tn (z := 877834265) rfl ?_)
          refine q_aload_n rfl rfl rfl ?_
          refine q_getf rfl rfl (by decide) rfl rfl ?_
          refine q_iload_n rfl rfl rfl ?_
          refine q_iald rfl rfl (by decide) rfl (by decide) (q_tn (z := 0) rfl ?_)
          refine q_iadd rfl rfl (q_tn (z := 877834265) rfl ?_)
          refine q_ist2n rfl rfl rfl rfl ?_
          refine q_icc3 (z := 17) rfl rfl rfl rfl rfl ?_
          refine q_goto rfl ?_
          refine q_iload_n rfl rfl rfl ?_
          refine q_bipush rfl rfl ?_
          refine q_icge rfl rfl (fun c174 => absurd c174 (by decide)) (fun c174 => ?_)
          refine q_bipush rfl rfl ?_
          refine q_iload_n rfl rfl rfl ?_
          refine q_imul rfl rfl (q_tn (z := 1443058439) rfl ?_)
          refine q_aload_n rfl rfl rfl ?_
          refine q_getf rfl rfl (by decide) rfl rfl ?_
          refine q_iload_n rfl rfl rfl ?_
          refine q_iald rfl rfl (by decide) rfl (by decide) (q_tn (z := 0) rfl ?_)
          refine q_iadd rfl rfl (q_tn (z := 1443058439) rfl ?_)
          refine q_ist2n rfl rfl rfl rfl ?_
          refine q_icc3 (z := 18) rfl rfl rfl rfl rfl ?_
          refine q_goto rfl ?_
          refine q_iload_n rfl rfl rfl ?_
          refine q_bipush rfl rfl ?_
          refine q_icge rfl rfl (fun c175 => absurd c175 (by decide)) (fun c175 => ?_)
          refine q_bipush rfl rfl ?_
          refine q_iload_n rfl rfl rfl ?_
          refine q_imul rfl rfl (q_tn (z := 1785138649) rfl ?_)
          refine q_aload_n rfl rfl rfl ?_
          refine q_getf rfl rfl (by decide) rfl rfl ?_
          refine q_iload_n rfl rfl rfl ?_
          refine q_iald rfl rfl (by decide) rfl (by decide) (q_tn (z := 0) rfl ?_)
          refine q_iadd rfl rfl (q_tn (z := 1785138649) rfl ?_)
          refine q_ist2n rfl rfl rfl rfl ?_
          refine q_icc3 (z := 19) rfl rfl rfl rfl rfl ?_
          refine q_goto rfl ?_
          refine q_iload_n rfl rfl rfl ?_
          refine q_bipush rfl rfl ?_
          refine q_icge rfl rfl (fun c176 => absurd c176 (by decide)) (fun c176 => ?_)
          refine q_bipush rfl rfl ?_
          refine q_iload_n rfl rfl rfl ?_
          refine q_imul rfl rfl (q_tn (z := (-495276729)) rfl ?_)
          refine q_aload_n rfl rfl rfl ?_
          refine q_getf rfl rfl (by decide) rfl rfl ?_
          refine q_iload_n rfl rfl rfl ?_
          refine q_iald rfl rfl (by decide) rfl (by decide) (q_tn (z := 0) rfl ?_)
          refine q_iadd rfl rfl (q_tn (z := (-495276729)) rfl ?_)
          refine q_ist2n rfl rfl rfl rfl ?_
          refine q_icc3 (z := 20) rfl rfl rfl rfl rfl ?_
          refine q_goto rfl ?_
          refine q_iload_n rfl rfl rfl ?_
          refine q_bipush rfl rfl ?_
          refine q_icge rfl rfl (fun c177 => ?_) (fun c177 => absurd (by decide) c177)
          refine q_sipush rfl rfl ?_
          refine q_iload_n rfl rfl rfl ?_
          refine q_imul rfl rfl (q_tn (z := 0) rfl ?_)
          refine q_iload_n rfl rfl rfl ?_
          refine q_iload_n rfl rfl rfl ?_
          refine q_bipush rfl rfl ?_
          refine q_iushr rfl rfl (q_tn (z := 463829) rfl ?_)
          refine q_ixor rfl rfl (q_tn (z := (-495075694)) rfl ?_)
          refine q_sipush rfl rfl ?_
          refine q_irem rfl rfl (by decide) (q_tn (z := (-366)) rfl ?_)
          refine q_iload_n rfl rfl rfl ?_
          refine q_iload_n rfl rfl rfl ?_
          refine q_bipush rfl rfl ?_
          refine q_iushr rfl rfl (q_tn (z := 463829) rfl ?_)
          refine q_ixor rfl rfl (q_tn (z := (-495075694)) rfl ?_)
          refine q_sipush rfl rfl ?_
          refine q_irem rfl rfl (by decide) (q_tn (z := (-366)) rfl ?_)
          refine q_ifge rfl rfl (fun c178 => absurd c178 (by decide)) (fun c178 => ?_)
          refine q_iconst rfl rfl ?_
          refine q_goto rfl ?_
          refine q_imul rfl rfl (q_tn (z := 366) rfl ?_)
          refine q_iadd rfl rfl (q_tn (z := 366) rfl ?_)
          refine q_iret rfl rfl trivial ?_
          refine ⟨_, rfl, ?_⟩
          refine q_ist6 rfl rfl rfl rfl ?_
          refine q_aload_n rfl rfl rfl ?_
          refine q_getf rfl rfl (by decide) rfl rfl ?_
          refine q_iload rfl rfl rfl ?_
          refine q_aload_n rfl rfl rfl ?_
          refine q_getf rfl rfl (by decide) rfl rfl ?_
          refine q_iload rfl rfl rfl ?_
          refine q_iald rfl rfl (by decide) rfl (by decide) (q_tn (z := (-1)) rfl ?_)
          refine q_iast rfl rfl (by decide) (FW_58 S hW) (by decide) ?_
          refine q_aload_n rfl rfl rfl ?_
          refine q_getf rfl rfl (by decide) rfl rfl ?_
          refine q_iload rfl rfl rfl ?_
          refine q_iload rfl rfl rfl ?_
          refine q_iast rfl rfl (by decide) rfl (by decide) ?_
          refine q_aload_n rfl rfl rfl ?_
          refine q_getf rfl rfl (by decide) rfl rfl ?_
          refine q_iload_n rfl rfl rfl ?_
          refine q_dup2 rfl rfl ?_
          refine q_iald rfl rfl (by decide) rfl (by decide) (q_tn (z := 0) rfl ?_)
          refine q_iconst rfl rfl ?_
          refine q_iadd rfl rfl (q_tn (z := 1) rfl ?_)
          refine q_iast rfl rfl (by decide) rfl (by decide) ?_
          refine q_iload rfl rfl rfl ?_
          refine q_iret rfl rfl trivial ?_
          refine ⟨_, rfl, ?_⟩
          refine q_ist3n rfl rfl rfl rfl ?_
          refine q_iconst rfl rfl ?_
          refine q_ist4 rfl rfl rfl rfl ?_
          refine q_iload rfl rfl rfl ?_
          refine q_aload_n rfl rfl rfl ?_
          refine q_getf rfl rfl (by decide) rfl rfl ?_
          refine q_iload_n rfl rfl rfl ?_
          refine q_iald rfl rfl (by decide) rfl (by decide) (q_tn (z := 1) rfl ?_)
          refine q_icge rfl rfl (fun c179 => absurd c179 (by decide)) (fun c179 => ?_)
          refine q_iconst rfl rfl ?_
          refine q_ist5 rfl rfl rfl rfl ?_
          refine q_iload rfl rfl rfl ?_
          refine q_iconst rfl rfl ?_
          refine q_icge rfl rfl (fun c180 => absurd c180 (by decide)) (fun c180 => ?_)
          refine q_iconst rfl rfl ?_
          refine q_sipush rfl rfl ?_
          refine q_iload_n rfl rfl rfl ?_
          refine q_imul rfl rfl (q_tn (z := 0) rfl ?_)
          refine q_iload rfl rfl rfl ?_
          refine q_iadd rfl rfl (q_tn (z := 0) rfl ?_)
          refine q_imul rfl rfl (q_tn (z := 0) rfl ?_)
          refine q_iload rfl rfl rfl ?_
          refine q_iadd rfl rfl (q_tn (z := 0) rfl ?_)
          refine q_ist6 rfl rfl rfl rfl ?_
          refine q_aload_n rfl rfl rfl ?_
          refine q_getf rfl rfl (by decide) rfl rfl ?_
          refine q_iload rfl rfl rfl ?_
          refine q_iconst rfl rfl ?_
          refine q_iast rfl rfl (by decide) (FW_59 S hW) (by decide) ?_
          refine q_aload_n rfl rfl rfl ?_
          refine q_iload_n rfl rfl rfl ?_
          refine q_iload rfl rfl rfl ?_
          refine q_cV2v rfl rfl (Or.inl rfl) rfl rfl rfl (by decide) rfl ⟨rfl, rfl⟩ rfl (fun K' hK' => l_sa (R := 0) (by decide) rfl (by decide) rfl rfl rfl rfl rfl hK') ?_
          refine q_iload rfl rfl rfl ?_
          refine q_aload_n rfl rfl rfl ?_
          refine q_getf rfl rfl (by decide) rfl rfl ?_
          refine q_icge rfl rfl (fun c181 => absurd c181 (by decide)) (fun c181 => ?_)
          refine q_aload_n rfl rfl rfl ?_
          refine q_iload rfl rfl rfl ?_
          refine q_iload_n rfl rfl rfl ?_
          refine q_nV2 rfl rfl (Or.inl rfl) rfl rfl rfl (by decide) rfl ⟨rfl, rfl⟩ rfl ?_
          change PQ _ _ _ mm_X12_maySteps 0 [.ref 46, .int 0, .int 0, pm_un, pm_un, pm_un] [] _ _ 0 0 _
          refine q_aload_n rfl rfl rfl ?_
          refine q_iload_n rfl rfl rfl ?_
          refine q_iload_n rfl rfl rfl ?_
          refine q_nV2 rfl rfl (Or.inl rfl) rfl rfl rfl (by decide) rfl ⟨rfl, rfl⟩ rfl ?_
          change PQ _ _ _ mm_X12_canStep 0 [.ref 46, .int 0, .int 0, pm_un] [] _ _ 0 0 _
          refine q_aload_n rfl rfl rfl ?_
          refine q_iload_n rfl rfl rfl ?_
          refine q_nV1 rfl rfl (Or.inl rfl) rfl rfl rfl (by decide) rfl ⟨rfl, rfl⟩ rfl ?_
          change PQ _ _ _ mm_X12_isOver 0 [.ref 46, .int 0] [] _ _ 0 0 _
          refine q_aload_n rfl rfl rfl ?_
          refine q_getf rfl rfl (by decide) rfl rfl ?_
          refine q_iconst rfl rfl ?_
          refine q_iload_n rfl rfl rfl ?_
          refine q_imul rfl rfl (q_tn (z := 0) rfl ?_)
          refine q_iald rfl rfl (by decide) rfl (by decide) (q_tn (z := 10) rfl ?_)
          refine q_bipush rfl rfl ?_
          refine q_iclt rfl rfl (fun c182 => absurd c182 (by decide)) (fun c182 => ?_)
          refine q_iconst rfl rfl ?_
          refine q_goto rfl ?_
          refine q_iret rfl rfl rfl ?_
          refine ⟨_, rfl, ?_⟩
          refine q_ifeq rfl rfl (fun c183 => absurd c183 (by decide)) (fun c183 => ?_)
          refine q_iconst rfl rfl ?_
          refine q_iret rfl rfl rfl ?_
          refine ⟨_, rfl, ?_⟩
          refine q_ifne rfl rfl (fun c184 => ?_) (fun c184 => absurd (by decide) c184)
          refine q_iconst rfl rfl ?_
          refine q_iret rfl rfl rfl ?_
          refine ⟨_, rfl, ?_⟩
          refine q_ifne rfl rfl (fun c185 => ?_) (fun c185 => absurd (by decide) c185)
          refine q_goto rfl ?_
          refine q_icc5 (z := 1) rfl rfl rfl rfl rfl ?_
          refine q_goto rfl ?_
          refine q_iload rfl rfl rfl ?_
          refine q_iconst rfl rfl ?_
          refine q_icge rfl rfl (fun c186 => absurd c186 (by decide)) (fun c186 => ?_)
          refine q_iconst rfl rfl ?_
          refine q_sipush rfl rfl ?_
          refine q_iload_n rfl rfl rfl ?_
          refine q_imul rfl rfl (q_tn (z := 0) rfl ?_)
          refine q_iload rfl rfl rfl ?_
          refine q_iadd rfl rfl (q_tn (z := 0) rfl ?_)
          refine q_imul rfl rfl (q_tn (z := 0) rfl ?_)
          refine q_iload rfl rfl rfl ?_
          refine q_iadd rfl rfl (q_tn (z := 1) rfl ?_)
          refine q_ist6 rfl rfl rfl rfl ?_
          refine q_aload_n rfl rfl rfl ?_
          refine q_getf rfl rfl (by decide) rfl rfl ?_
          refine q_iload rfl rfl rfl ?_
          refine q_iconst rfl rfl ?_
          refine q_iast rfl rfl (by decide) rfl (by decide) ?_
          refine q_aload_n rfl rfl rfl ?_
          refine q_iload_n rfl rfl rfl ?_
          refine q_iload rfl rfl rfl ?_
          refine q_cV2v rfl rfl (Or.inl rfl) rfl rfl rfl (by decide) rfl ⟨rfl, rfl⟩ rfl (fun K' hK' => l_sa (R := 0) (by decide) rfl (by decide) rfl rfl rfl rfl rfl hK') ?_
          refine q_iload rfl rfl rfl ?_
          refine q_aload_n rfl rfl rfl ?_
          refine q_getf rfl rfl (by decide) rfl rfl ?_
          refine q_icge rfl rfl (fun c187 => ?_) (fun c187 => absurd (by decide) c187)
          refine q_icc5 (z := 2) rfl rfl rfl rfl rfl ?_
          refine q_goto rfl ?_
          refine q_iload rfl rfl rfl ?_
          refine q_iconst rfl rfl ?_
          refine q_icge rfl rfl (fun c188 => absurd c188 (by decide)) (fun c188 => ?_)
          refine q_iconst rfl rfl ?_
          refine q_sipush rfl rfl ?_
          refine q_iload_n rfl rfl rfl ?_
          refine q_imul rfl rfl (q_tn (z := 0) rfl ?_)
          refine q_iload rfl rfl rfl ?_
          refine q_iadd rfl rfl (q_tn (z := 0) rfl ?_)
          refine q_imul rfl rfl (q_tn (z := 0) rfl ?_)
          refine q_iload rfl rfl rfl ?_
          refine q_iadd rfl rfl (q_tn (z := 2) rfl ?_)
          refine q_ist6 rfl rfl rfl rfl ?_
          refine q_aload_n rfl rfl rfl ?_
          refine q_getf rfl rfl (by decide) rfl rfl ?_
          refine q_iload rfl rfl rfl ?_
          refine q_iconst rfl rfl ?_
          refine q_iast rfl rfl (by decide) rfl (by decide) ?_
          refine q_aload_n rfl rfl rfl ?_
          refine q_iload_n rfl rfl rfl ?_
          refine q_iload rfl rfl rfl ?_
          refine q_cV2v rfl rfl (Or.inl rfl) rfl rfl rfl (by decide) rfl ⟨rfl, rfl⟩ rfl (fun K' hK' => l_sa (R := 0) (by decide) rfl (by decide) rfl rfl rfl rfl rfl hK') ?_
          refine q_iload rfl rfl rfl ?_
          refine q_aload_n rfl rfl rfl ?_
          refine q_getf rfl rfl (by decide) rfl rfl ?_
          refine q_icge rfl rfl (fun c189 => ?_) (fun c189 => absurd (by decide) c189)
          refine q_icc5 (z := 3) rfl rfl rfl rfl rfl ?_
          refine q_goto rfl ?_
          refine q_iload rfl rfl rfl ?_
          refine q_iconst rfl rfl ?_
          refine q_icge rfl rfl (fun c190 => ?_) (fun c190 => absurd (by decide) c190)
          refine q_icc4 (z := 1) rfl rfl rfl rfl rfl ?_
          refine q_goto rfl ?_
          refine q_iload rfl rfl rfl ?_
          refine q_aload_n rfl rfl rfl ?_
          refine q_getf rfl rfl (by decide) rfl rfl ?_
          refine q_iload_n rfl rfl rfl ?_
          refine q_iald rfl rfl (by decide) rfl (by decide) (q_tn (z := 1) rfl ?_)
          refine q_icge rfl rfl (fun c191 => ?_) (fun c191 => absurd (by decide) c191)
          refine q_iconst rfl rfl ?_
          refine q_iret rfl rfl rfl ?_
          refine ⟨_, rfl, ?_⟩
          refine q_ifeq rfl rfl (fun c192 => absurd c192 (by decide)) (fun c192 => ?_)
          refine q_iconst rfl rfl ?_
          refine q_goto rfl ?_
          refine q_iast rfl rfl (by decide) (FW_62 S hW) (by decide) ?_
          refine q_iload_n rfl rfl rfl ?_
          refine q_ifne rfl rfl (fun c193 => ?_) (fun c193 => absurd (by decide) c193)
          refine q_aload_n rfl rfl rfl ?_
          refine q_iconst rfl rfl ?_
          refine q_putf rfl rfl (by decide) rfl (by decide) rfl rfl ?_
          refine q_aload_n rfl rfl rfl ?_
          refine q_getf rfl rfl (by decide) rfl rfl ?_
          refine q_iload_n rfl rfl rfl ?_
          refine q_aload_n rfl rfl rfl ?_
          refine q_getf rfl rfl (by decide) rfl rfl ?_
          refine q_iload_n rfl rfl rfl ?_
          refine q_iald rfl rfl (by decide) rfl (by decide) (q_tn (z := 1) rfl ?_)
          refine q_iast rfl rfl (by decide) (FW_63 S hW) (by decide) ?_
          refine q_iconst rfl rfl ?_
          refine q_ist3n rfl rfl rfl rfl ?_
          refine q_iload_n rfl rfl rfl ?_
          refine q_iconst rfl rfl ?_
          refine q_icge rfl rfl (fun c194 => absurd c194 (by decide)) (fun c194 => ?_)
          refine q_aload_n rfl rfl rfl ?_
          refine q_getf rfl rfl (by decide) rfl rfl ?_
          refine q_iconst rfl rfl ?_
          refine q_iload_n rfl rfl rfl ?_
          refine q_imul rfl rfl (q_tn (z := 0) rfl ?_)
          refine q_iload_n rfl rfl rfl ?_
          refine q_iadd rfl rfl (q_tn (z := 0) rfl ?_)
          refine q_iconst rfl rfl ?_
          refine q_iast rfl rfl (by decide) (FW_64 S hW) (by decide) ?_
          refine q_icc3 (z := 1) rfl rfl rfl rfl rfl ?_
          refine q_goto rfl ?_
          refine q_iload_n rfl rfl rfl ?_
          refine q_iconst rfl rfl ?_
          refine q_icge rfl rfl (fun c195 => absurd c195 (by decide)) (fun c195 => ?_)
          refine q_aload_n rfl rfl rfl ?_
          refine q_getf rfl rfl (by decide) rfl rfl ?_
          refine q_iconst rfl rfl ?_
          refine q_iload_n rfl rfl rfl ?_
          refine q_imul rfl rfl (q_tn (z := 0) rfl ?_)
          refine q_iload_n rfl rfl rfl ?_
          refine q_iadd rfl rfl (q_tn (z := 1) rfl ?_)
          refine q_iconst rfl rfl ?_
          refine q_iast rfl rfl (by decide) rfl (by decide) ?_
          refine q_icc3 (z := 2) rfl rfl rfl rfl rfl ?_
          refine q_goto rfl ?_
          refine q_iload_n rfl rfl rfl ?_
          refine q_iconst rfl rfl ?_
          refine q_icge rfl rfl (fun c196 => absurd c196 (by decide)) (fun c196 => ?_)
          refine q_aload_n rfl rfl rfl ?_
          refine q_getf rfl rfl (by decide) rfl rfl ?_
          refine q_iconst rfl rfl ?_
          refine q_iload_n rfl rfl rfl ?_
          refine q_imul rfl rfl (q_tn (z := 0) rfl ?_)
          refine q_iload_n rfl rfl rfl ?_
          refine q_iadd rfl rfl (q_tn (z := 2) rfl ?_)
          refine q_iconst rfl rfl ?_
          refine q_iast rfl rfl (by decide) rfl (by decide) ?_
          refine q_icc3 (z := 3) rfl rfl rfl rfl rfl ?_
          refine q_goto rfl ?_
          refine q_iload_n rfl rfl rfl ?_
          refine q_iconst rfl rfl ?_
          refine q_icge rfl rfl (fun c197 => absurd c197 (by decide)) (fun c197 => ?_)
          refine q_aload_n rfl rfl rfl ?_
          refine q_getf rfl rfl (by decide) rfl rfl ?_
          refine q_iconst rfl rfl ?_
          refine q_iload_n rfl rfl rfl ?_
          refine q_imul rfl rfl (q_tn (z := 0) rfl ?_)
          refine q_iload_n rfl rfl rfl ?_
          refine q_iadd rfl rfl (q_tn (z := 3) rfl ?_)
          refine q_iconst rfl rfl ?_
          as_aux_lemma =>
            refine q_iast rfl rfl (by decide) rfl (by decide) ?_
            refine q_icc3 (z := 4) rfl rfl rfl rfl rfl ?_
            refine q_goto rfl ?_
            refine q_iload_n rfl rfl rfl ?_
            refine q_iconst rfl rfl ?_
            refine q_icge rfl rfl (fun c198 => ?_) (fun c198 => absurd (by decide) c198)
            refine q_iconst rfl rfl ?_
            refine q_ist3n rfl rfl rfl rfl ?_
            refine q_iload_n rfl rfl rfl ?_
            refine q_aload_n rfl rfl rfl ?_
            refine q_getf rfl rfl (by decide) rfl rfl ?_
            refine q_iload_n rfl rfl rfl ?_
            refine q_iald rfl rfl (by decide) rfl (by decide) (q_tn (z := 1) rfl ?_)
            refine q_icge rfl rfl (fun c199 => absurd c199 (by decide)) (fun c199 => ?_)
            refine q_aload_n rfl rfl rfl ?_
            refine q_iload_n rfl rfl rfl ?_
            refine q_iload_n rfl rfl rfl ?_
            refine q_cV2v rfl rfl (Or.inl rfl) rfl rfl rfl (by decide) rfl ⟨rfl, rfl⟩ rfl (fun K' hK' => l_sa (R := 0) (by decide) rfl (by decide) rfl rfl rfl rfl rfl hK') ?_
            refine q_aload_n rfl rfl rfl ?_
            refine q_nV0 rfl rfl (Or.inl rfl) rfl rfl rfl (by decide) rfl ⟨rfl, rfl⟩ rfl ?_
            change PQ _ _ _ mm_X12_isEnd 0 [.ref 46, pm_un, pm_un] [] _ _ 0 0 _
            refine q_iconst rfl rfl ?_
            refine q_ist1n rfl rfl rfl rfl ?_
            refine q_iconst rfl rfl ?_
            refine q_ist2n rfl rfl rfl rfl ?_
            refine q_iload_n rfl rfl rfl ?_
            refine q_aload_n rfl rfl rfl ?_
            refine q_getf rfl rfl (by decide) rfl rfl ?_
            refine q_icge rfl rfl (fun c200 => absurd c200 (by decide)) (fun c200 => ?_)
            refine q_iload_n rfl rfl rfl ?_
            refine q_ifeq rfl rfl (fun c201 => absurd c201 (by decide)) (fun c201 => ?_)
            refine q_aload_n rfl rfl rfl ?_
            refine q_iload_n rfl rfl rfl ?_
            refine q_nV1 rfl rfl (Or.inl rfl) rfl rfl rfl (by decide) rfl ⟨rfl, rfl⟩ rfl ?_
            change PQ _ _ _ mm_X12_isOver 0 [.ref 46, .int 0] [] _ _ 0 0 _
            refine q_aload_n rfl rfl rfl ?_
            refine q_getf rfl rfl (by decide) rfl rfl ?_
            refine q_iconst rfl rfl ?_
            refine q_iload_n rfl rfl rfl ?_
            refine q_imul rfl rfl (q_tn (z := 0) rfl ?_)
            refine q_iald rfl rfl (by decide) rfl (by decide) (q_tn (z := 10) rfl ?_)
            refine q_bipush rfl rfl ?_
            refine q_iclt rfl rfl (fun c202 => absurd c202 (by decide)) (fun c202 => ?_)
            refine q_iconst rfl rfl ?_
            refine q_goto rfl ?_
            refine q_iret rfl rfl rfl ?_
            refine ⟨_, rfl, ?_⟩
            refine q_ifeq rfl rfl (fun c203 => absurd c203 (by decide)) (fun c203 => ?_)
            refine q_iconst rfl rfl ?_
            refine q_goto rfl ?_
            refine q_ist1n rfl rfl rfl rfl ?_
            refine q_icc2 (z := 1) rfl rfl rfl rfl rfl ?_
            refine q_goto rfl ?_
            refine q_iload_n rfl rfl rfl ?_
            refine q_aload_n rfl rfl rfl ?_
            refine q_getf rfl rfl (by decide) rfl rfl ?_
            refine q_icge rfl rfl (fun c204 => ?_) (fun c204 => absurd (by decide) c204)
            refine q_iload_n rfl rfl rfl ?_
            refine q_iret rfl rfl rfl ?_
            refine ⟨_, rfl, ?_⟩
            refine q_ifne rfl rfl (fun c205 => absurd c205 (by decide)) (fun c205 => ?_)
            refine q_iconst rfl rfl ?_
            refine q_ist4 rfl rfl rfl rfl ?_
            refine q_iload rfl rfl rfl ?_
            refine q_iconst rfl rfl ?_
            refine q_icge rfl rfl (fun c206 => absurd c206 (by decide)) (fun c206 => ?_)
            refine q_aload_n rfl rfl rfl ?_
            refine q_getf rfl rfl (by decide) rfl rfl ?_
            refine q_iconst rfl rfl ?_
            refine q_iload_n rfl rfl rfl ?_
            refine q_imul rfl rfl (q_tn (z := 0) rfl ?_)
            refine q_iload rfl rfl rfl ?_
            refine q_iadd rfl rfl (q_tn (z := 0) rfl ?_)
            refine q_dup2 rfl rfl ?_
            refine q_iald rfl rfl (by decide) rfl (by decide) (q_tn (z := 0) rfl ?_)
            refine q_iconst rfl rfl ?_
            refine q_aload_n rfl rfl rfl ?_
            refine q_getf rfl rfl (by decide) rfl rfl ?_
            refine q_bipush rfl rfl ?_
            refine q_iload rfl rfl rfl ?_
            refine q_iadd rfl rfl (q_tn (z := 12) rfl ?_)
            refine q_iald rfl rfl (by decide) rfl (by decide) (q_tn (z := 0) rfl ?_)
            refine q_ishl rfl rfl (q_tn (z := 1) rfl ?_)
            refine q_ior rfl rfl (q_tn (z := 1) rfl ?_)
            refine q_iast rfl rfl (by decide) rfl (by decide) ?_
            refine q_icc4 (z := 1) rfl rfl rfl rfl rfl ?_
            refine q_goto rfl ?_
            refine q_iload rfl rfl rfl ?_
            refine q_iconst rfl rfl ?_
            refine q_icge rfl rfl (fun c207 => absurd c207 (by decide)) (fun c207 => ?_)
            refine q_aload_n rfl rfl rfl ?_
            refine q_getf rfl rfl (by decide) rfl rfl ?_
            refine q_iconst rfl rfl ?_
            refine q_iload_n rfl rfl rfl ?_
            refine q_imul rfl rfl (q_tn (z := 0) rfl ?_)
            refine q_iload rfl rfl rfl ?_
            refine q_iadd rfl rfl (q_tn (z := 1) rfl ?_)
            refine q_dup2 rfl rfl ?_
            refine q_iald rfl rfl (by decide) rfl (by decide) (q_tn (z := 0) rfl ?_)
            refine q_iconst rfl rfl ?_
            refine q_aload_n rfl rfl rfl ?_
            refine q_getf rfl rfl (by decide) rfl rfl ?_
            refine q_bipush rfl rfl ?_
            refine q_iload rfl rfl rfl ?_
            refine q_iadd rfl rfl (q_tn (z := 13) rfl ?_)
            refine q_iald rfl rfl (by decide) rfl (by decide) (q_tn (z := 0) rfl ?_)
            refine q_ishl rfl rfl (q_tn (z := 1) rfl ?_)
            refine q_ior rfl rfl (q_tn (z := 1) rfl ?_)
            refine q_iast rfl rfl (by decide) rfl (by decide) ?_
            refine q_icc4 (z := 2) rfl rfl rfl rfl rfl ?_
            refine q_goto rfl ?_
            refine q_iload rfl rfl rfl ?_
            refine q_iconst rfl rfl ?_
            refine q_icge rfl rfl (fun c208 => absurd c208 (by decide)) (fun c208 => ?_)
            refine q_aload_n rfl rfl rfl ?_
            refine q_getf rfl rfl (by decide) rfl rfl ?_
            refine q_iconst rfl rfl ?_
            refine q_iload_n rfl rfl rfl ?_
            refine q_imul rfl rfl (q_tn (z := 0) rfl ?_)
            refine q_iload rfl rfl rfl ?_
            refine q_iadd rfl rfl (q_tn (z := 2) rfl ?_)
            refine q_dup2 rfl rfl ?_
            refine q_iald rfl rfl (by decide) rfl (by decide) (q_tn (z := 0) rfl ?_)
            refine q_iconst rfl rfl ?_
            refine q_aload_n rfl rfl rfl ?_
            refine q_getf rfl rfl (by decide) rfl rfl ?_
            refine q_bipush rfl rfl ?_
            refine q_iload rfl rfl rfl ?_
            refine q_iadd rfl rfl (q_tn (z := 14) rfl ?_)
            refine q_iald rfl rfl (by decide) rfl (by decide) (q_tn (z := 0) rfl ?_)
            refine q_ishl rfl rfl (q_tn (z := 1) rfl ?_)
            refine q_ior rfl rfl (q_tn (z := 1) rfl ?_)
            refine q_iast rfl rfl (by decide) rfl (by decide) ?_
            refine q_icc4 (z := 3) rfl rfl rfl rfl rfl ?_
            refine q_goto rfl ?_
            refine q_iload rfl rfl rfl ?_
            refine q_iconst rfl rfl ?_
            refine q_icge rfl rfl (fun c209 => absurd c209 (by decide)) (fun c209 => ?_)
            refine q_aload_n rfl rfl rfl ?_
            refine q_getf rfl rfl (by decide) rfl rfl ?_
            refine q_iconst rfl rfl ?_
            refine q_iload_n rfl rfl rfl ?_
            refine q_imul rfl rfl (q_tn (z := 0) rfl ?_)
            refine q_iload rfl rfl rfl ?_
            refine q_iadd rfl rfl (q_tn (z := 3) rfl ?_)
            refine q_dup2 rfl rfl ?_
            refine q_iald rfl rfl (by decide) rfl (by decide) (q_tn (z := 0) rfl ?_)
            refine q_iconst rfl rfl ?_
            refine q_aload_n rfl rfl rfl ?_
            refine q_getf rfl rfl (by decide) rfl rfl ?_
            refine q_bipush rfl rfl ?_
            refine q_iload rfl rfl rfl ?_
            refine q_iadd rfl rfl (q_tn (z := 15) rfl ?_)
            refine q_iald rfl rfl (by decide) rfl (by decide) (q_tn (z := 0) rfl ?_)
            refine q_ishl rfl rfl (q_tn (z := 1) rfl ?_)
            refine q_ior rfl rfl (q_tn (z := 1) rfl ?_)
            refine q_iast rfl rfl (by decide) rfl (by decide) ?_
            refine q_icc4 (z := 4) rfl rfl rfl rfl rfl ?_
            refine q_goto rfl ?_
            refine q_iload rfl rfl rfl ?_
            refine q_iconst rfl rfl ?_
            refine q_icge rfl rfl (fun c210 => ?_) (fun c210 => absurd (by decide) c210)
            refine q_icc3 (z := 1) rfl rfl rfl rfl rfl ?_
            refine q_goto rfl ?_
            refine q_iload_n rfl rfl rfl ?_
            refine q_aload_n rfl rfl rfl ?_
            refine q_getf rfl rfl (by decide) rfl rfl ?_
            refine q_iload_n rfl rfl rfl ?_
            refine q_iald rfl rfl (by decide) rfl (by decide) (q_tn (z := 1) rfl ?_)
            refine q_icge rfl rfl (fun c211 => ?_) (fun c211 => absurd (by decide) c211)
            refine q_aload_n rfl rfl rfl ?_
            refine q_getf rfl rfl (by decide) rfl rfl ?_
            refine q_iload_n rfl rfl rfl ?_
            refine q_iald rfl rfl (by decide) rfl (by decide) (q_tn (z := 1) rfl ?_)
            refine q_iconst rfl rfl ?_
            refine q_icne rfl rfl (fun c212 => absurd c212 (by decide)) (fun c212 => ?_)
            refine q_iconst rfl rfl ?_
            refine q_iret rfl rfl rfl ?_
            refine ⟨_, rfl, ?_⟩
            refine q_ifeq rfl rfl (fun c213 => ?_) (fun c213 => absurd (by decide) c213)
            refine q_aload_n rfl rfl rfl ?_
            refine q_getf rfl rfl (by decide) rfl rfl ?_
            refine q_iload_n rfl rfl rfl ?_
            refine q_iald rfl rfl (by decide) rfl (by decide) (q_tn (z := 1) rfl ?_)
            refine q_iret rfl rfl trivial ?_
            refine ⟨_, rfl, ?_⟩
            refine q_iceq rfl rfl (fun c214 => ?_) (fun c214 => absurd (by decide) c214)
            refine q_icc4 (z := 6) rfl rfl rfl rfl rfl ?_
            refine q_goto rfl ?_
            refine q_iload rfl rfl rfl ?_
            refine q_aload_nF rfl rfl rfl ?_
            refine q_alenX (x := 6) rfl rfl rfl ?_
            refine q_bipush rfl rfl ?_
            refine q_isub rfl rfl (q_tn (z := 0) rfl ?_)
            refine q_icgt rfl rfl (fun c215 => ?_) (fun c215 => absurd (by decide) c215)
            refine q_iconst rfl rfl ?_
            refine q_iret rfl rfl rfl ?_
            exact hK _ _
      · refine q_aload_n rfl rfl rfl ?_
        refine q_getf rfl rfl (by decide) (FW_0 S hW) rfl ?_
        refine q_ast2n rfl rfl rfl rfl ?_
        refine q_aload_n rfl rfl rfl ?_
        refine q_getf rfl rfl (by decide) (FW_0 S hW) rfl ?_
        refine q_iload_n rfl rfl rfl ?_
        refine q_putf rfl rfl (by decide) (FW_7 S hW) (by decide) rfl trivial ?_
        refine q_aload_n rfl rfl rfl ?_
        refine q_aload_n rfl rfl rfl ?_
        refine q_getf rfl rfl (by decide) (FW_0 S hW) rfl ?_
        refine q_iconst rfl rfl ?_
        refine q_nV2v rfl rfl (Or.inl rfl) rfl rfl rfl (by decide) (FW_16 S hW) ⟨rfl, rfl⟩ rfl ?_
        change PQ _ _ _ mm_X7_explore 0 [.ref 16, .ref 7, .int 0, pm_un] [] _ _ 0 0 _
        refine q_aload_n rfl rfl rfl ?_
        refine q_nV0v rfl rfl (Or.inl rfl) rfl rfl rfl (by decide) (FW_16 S hW) ⟨rfl, rfl⟩ rfl ?_
        change PQ _ _ _ mm_X7_clear 0 [.ref 16, pm_un] [] _ _ 0 0 _
        refine q_iconst rfl rfl ?_
        refine q_ist1n rfl rfl rfl rfl ?_
        refine q_iload_n rfl rfl rfl ?_
        refine q_aload_n rfl rfl rfl ?_
        refine q_getf rfl rfl (by decide) (FW_16 S hW) rfl ?_
        refine q_icge rfl rfl (fun c216 => ?_) (fun c216 => absurd (by decide) c216)
        refine q_aload_n rfl rfl rfl ?_
        refine q_iconst rfl rfl ?_
        refine q_putf rfl rfl (by decide) (FW_16 S hW) (by decide) rfl trivial ?_
        refine q_aload_n rfl rfl rfl ?_
        refine q_iconst rfl rfl ?_
        refine q_putf rfl rfl (by decide) rfl (by decide) rfl rfl ?_
        refine q_aload_n rfl rfl rfl ?_
        refine q_iconst rfl rfl ?_
        refine q_putf rfl rfl (by decide) rfl (by decide) rfl rfl ?_
        refine q_aload_n rfl rfl rfl ?_
        refine q_lconst rfl rfl ?_
        refine q_putf rfl rfl (by decide) rfl (by decide) rfl trivial ?_
        refine q_ret rfl rfl ?_
        refine ⟨rfl, ?_⟩
        refine q_aload_n rfl rfl rfl ?_
        refine q_aload_n rfl rfl rfl ?_
        refine q_nV0 rfl rfl (Or.inl rfl) rfl rfl rfl (by decide) rfl ⟨rfl, rfl⟩ rfl ?_
        change PQ _ _ _ mm_X6_first 0 [.ref 7, pm_un, pm_un, pm_un] [] _ _ 0 0 _
        refine q_lconst rfl rfl ?_
        refine q_lst1n rfl rfl rfl rfl ?_
        refine q_iconst rfl rfl ?_
        refine q_ist3n rfl rfl rfl rfl ?_
        refine q_iload_n rfl rfl rfl ?_
        refine q_iconst rfl rfl ?_
        refine q_icge rfl rfl (fun c217 => absurd c217 (by decide)) (fun c217 => ?_)
        refine q_lload_n rfl rfl rfl ?_
        refine q_iload_n rfl rfl rfl ?_
        refine q_aload_n rfl rfl rfl ?_
        refine q_getf rfl rfl (by decide) rfl rfl ?_
        refine q_getf rfl rfl (by decide) (FW_1 S hW) rfl ?_
        refine q_iload_n rfl rfl rfl ?_
        refine q_iald rfl rfl (by decide) (FW_2 S hW) (by decide) (q_tn (z := 0) rfl ?_)
        refine q_nS3 rfl rfl (Or.inl rfl) rfl rfl ⟨rfl, rfl⟩ rfl ?_
        change PQ _ _ _ mm_X0_withPlace 0 [.long 0, pm_un, .int 0, .int 0, pm_un] [] _ _ 0 0 _
        refine q_bipush rfl rfl ?_
        refine q_iconst rfl rfl ?_
        refine q_iload_n rfl rfl rfl ?_
        refine q_imul rfl rfl (q_tn (z := 0) rfl ?_)
        refine q_iadd rfl rfl (q_tn (z := 36) rfl ?_)
        refine q_ist4 rfl rfl rfl rfl ?_
        refine q_lload_n rfl rfl rfl ?_
        refine q_ldc2 rfl rfl ?_
        refine q_iload rfl rfl rfl ?_
        refine q_lshl rfl rfl (q_tnl (z := 1030792151040) rfl ?_)
        refine q_ldc2 rfl rfl ?_
        refine q_lxor rfl rfl (q_tnl (z := (-1030792151041)) rfl ?_)
        refine q_land rfl rfl (q_tnl (z := 0) rfl ?_)
        refine q_iload_n rfl rfl rfl ?_
        refine q_i2l rfl rfl (q_tnl (z := 0) rfl ?_)
        refine q_iload rfl rfl rfl ?_
        refine q_lshl rfl rfl (q_tnl (z := 0) rfl ?_)
        refine q_lor rfl rfl (q_tnl (z := 0) rfl ?_)
        refine q_lret rfl rfl trivial ?_
        refine ⟨_, rfl, ?_⟩
        refine q_lst1n rfl rfl rfl rfl ?_
        refine q_icc3 (z := 1) rfl rfl rfl rfl rfl ?_
        refine q_goto rfl ?_
        refine q_iload_n rfl rfl rfl ?_
        refine q_iconst rfl rfl ?_
        refine q_icge rfl rfl (fun c218 => absurd c218 (by decide)) (fun c218 => ?_)
        refine q_lload_n rfl rfl rfl ?_
        refine q_iload_n rfl rfl rfl ?_
        refine q_aload_n rfl rfl rfl ?_
        refine q_getf rfl rfl (by decide) rfl rfl ?_
        refine q_getf rfl rfl (by decide) (FW_1 S hW) rfl ?_
        refine q_iload_n rfl rfl rfl ?_
        refine q_iald rfl rfl (by decide) (FW_2 S hW) (by decide) (q_tn (z := 0) rfl ?_)
        refine q_nS3 rfl rfl (Or.inl rfl) rfl rfl ⟨rfl, rfl⟩ rfl ?_
        change PQ _ _ _ mm_X0_withPlace 0 [.long 0, pm_un, .int 1, .int 0, pm_un] [] _ _ 0 0 _
        refine q_bipush rfl rfl ?_
        refine q_iconst rfl rfl ?_
        refine q_iload_n rfl rfl rfl ?_
        refine q_imul rfl rfl (q_tn (z := 4) rfl ?_)
        refine q_iadd rfl rfl (q_tn (z := 40) rfl ?_)
        refine q_ist4 rfl rfl rfl rfl ?_
        refine q_lload_n rfl rfl rfl ?_
        refine q_ldc2 rfl rfl ?_
        refine q_iload rfl rfl rfl ?_
        refine q_lshl rfl rfl (q_tnl (z := 16492674416640) rfl ?_)
        refine q_ldc2 rfl rfl ?_
        refine q_lxor rfl rfl (q_tnl (z := (-16492674416641)) rfl ?_)
        refine q_land rfl rfl (q_tnl (z := 0) rfl ?_)
        refine q_iload_n rfl rfl rfl ?_
        refine q_i2l rfl rfl (q_tnl (z := 0) rfl ?_)
        refine q_iload rfl rfl rfl ?_
        refine q_lshl rfl rfl (q_tnl (z := 0) rfl ?_)
        refine q_lor rfl rfl (q_tnl (z := 0) rfl ?_)
        refine q_lret rfl rfl trivial ?_
        refine ⟨_, rfl, ?_⟩
        refine q_lst1n rfl rfl rfl rfl ?_
        refine q_icc3 (z := 2) rfl rfl rfl rfl rfl ?_
        refine q_goto rfl ?_
        refine q_iload_n rfl rfl rfl ?_
        refine q_iconst rfl rfl ?_
        refine q_icge rfl rfl (fun c219 => absurd c219 (by decide)) (fun c219 => ?_)
        refine q_lload_n rfl rfl rfl ?_
        refine q_iload_n rfl rfl rfl ?_
        refine q_aload_n rfl rfl rfl ?_
        refine q_getf rfl rfl (by decide) rfl rfl ?_
        refine q_getf rfl rfl (by decide) (FW_1 S hW) rfl ?_
        refine q_iload_n rfl rfl rfl ?_
        refine q_iald rfl rfl (by decide) (FW_2 S hW) (by decide) (q_tn (z := 0) rfl ?_)
        refine q_nS3 rfl rfl (Or.inl rfl) rfl rfl ⟨rfl, rfl⟩ rfl ?_
        change PQ _ _ _ mm_X0_withPlace 0 [.long 0, pm_un, .int 2, .int 0, pm_un] [] _ _ 0 0 _
        refine q_bipush rfl rfl ?_
        refine q_iconst rfl rfl ?_
        refine q_iload_n rfl rfl rfl ?_
        refine q_imul rfl rfl (q_tn (z := 8) rfl ?_)
        refine q_iadd rfl rfl (q_tn (z := 44) rfl ?_)
        refine q_ist4 rfl rfl rfl rfl ?_
        refine q_lload_n rfl rfl rfl ?_
        refine q_ldc2 rfl rfl ?_
        refine q_iload rfl rfl rfl ?_
        refine q_lshl rfl rfl (q_tnl (z := 263882790666240) rfl ?_)
        refine q_ldc2 rfl rfl ?_
        refine q_lxor rfl rfl (q_tnl (z := (-263882790666241)) rfl ?_)
        refine q_land rfl rfl (q_tnl (z := 0) rfl ?_)
        refine q_iload_n rfl rfl rfl ?_
        refine q_i2l rfl rfl (q_tnl (z := 0) rfl ?_)
        refine q_iload rfl rfl rfl ?_
        refine q_lshl rfl rfl (q_tnl (z := 0) rfl ?_)
        refine q_lor rfl rfl (q_tnl (z := 0) rfl ?_)
        refine q_lret rfl rfl trivial ?_
        refine ⟨_, rfl, ?_⟩
        refine q_lst1n rfl rfl rfl rfl ?_
        refine q_icc3 (z := 3) rfl rfl rfl rfl rfl ?_
        refine q_goto rfl ?_
        refine q_iload_n rfl rfl rfl ?_
        refine q_iconst rfl rfl ?_
        refine q_icge rfl rfl (fun c220 => absurd c220 (by decide)) (fun c220 => ?_)
        refine q_lload_n rfl rfl rfl ?_
        refine q_iload_n rfl rfl rfl ?_
        refine q_aload_n rfl rfl rfl ?_
        refine q_getf rfl rfl (by decide) rfl rfl ?_
        refine q_getf rfl rfl (by decide) (FW_1 S hW) rfl ?_
        refine q_iload_n rfl rfl rfl ?_
        refine q_iald rfl rfl (by decide) (FW_2 S hW) (by decide) (q_tn (z := 0) rfl ?_)
        refine q_nS3 rfl rfl (Or.inl rfl) rfl rfl ⟨rfl, rfl⟩ rfl ?_
        change PQ _ _ _ mm_X0_withPlace 0 [.long 0, pm_un, .int 3, .int 0, pm_un] [] _ _ 0 0 _
        refine q_bipush rfl rfl ?_
        refine q_iconst rfl rfl ?_
        refine q_iload_n rfl rfl rfl ?_
        refine q_imul rfl rfl (q_tn (z := 12) rfl ?_)
        refine q_iadd rfl rfl (q_tn (z := 48) rfl ?_)
        refine q_ist4 rfl rfl rfl rfl ?_
        refine q_lload_n rfl rfl rfl ?_
        refine q_ldc2 rfl rfl ?_
        refine q_iload rfl rfl rfl ?_
        refine q_lshl rfl rfl (q_tnl (z := 4222124650659840) rfl ?_)
        refine q_ldc2 rfl rfl ?_
        refine q_lxor rfl rfl (q_tnl (z := (-4222124650659841)) rfl ?_)
        refine q_land rfl rfl (q_tnl (z := 0) rfl ?_)
        refine q_iload_n rfl rfl rfl ?_
        refine q_i2l rfl rfl (q_tnl (z := 0) rfl ?_)
        refine q_iload rfl rfl rfl ?_
        refine q_lshl rfl rfl (q_tnl (z := 0) rfl ?_)
        refine q_lor rfl rfl (q_tnl (z := 0) rfl ?_)
        refine q_lret rfl rfl trivial ?_
        refine ⟨_, rfl, ?_⟩
        refine q_lst1n rfl rfl rfl rfl ?_
        refine q_icc3 (z := 4) rfl rfl rfl rfl rfl ?_
        refine q_goto rfl ?_
        refine q_iload_n rfl rfl rfl ?_
        refine q_iconst rfl rfl ?_
        refine q_icge rfl rfl (fun c221 => ?_) (fun c221 => absurd (by decide) c221)
        refine q_lload_n rfl rfl rfl ?_
        refine q_lret rfl rfl trivial ?_
        refine ⟨_, rfl, ?_⟩
        refine q_iconst rfl rfl ?_
        refine q_iconst rfl rfl ?_
        refine q_nV3 rfl rfl (Or.inl rfl) rfl rfl rfl (by decide) rfl ⟨rfl, rfl⟩ rfl ?_
        change PQ _ _ _ mm_X7_numberOf 0 [.ref 16, .long 0, pm_un, .int (-1), .int (-1), pm_un, pm_un, pm_un] [] _ _ 0 0 _
        refine q_lload_n rfl rfl rfl ?_
        refine q_ldc2 rfl rfl ?_
        refine q_lmul rfl rfl (q_tnl (z := 0) rfl ?_)
        refine q_bipush rfl rfl ?_
        refine q_lushr rfl rfl (q_tnl (z := 0) rfl ?_)
        refine q_l2i rfl rfl (q_tn (z := 0) rfl ?_)
        refine q_sipush rfl rfl ?_
        refine q_iand rfl rfl (q_tn (z := 0) rfl ?_)
        refine q_ist5 rfl rfl rfl rfl ?_
        refine q_iconst rfl rfl ?_
        refine q_ist6 rfl rfl rfl rfl ?_
        refine q_iload rfl rfl rfl ?_
        refine q_sipush rfl rfl ?_
        refine q_icge rfl rfl (fun c222 => absurd c222 (by decide)) (fun c222 => ?_)
        refine q_aload_n rfl rfl rfl ?_
        refine q_getf rfl rfl (by decide) rfl rfl ?_
        refine q_iload rfl rfl rfl ?_
        refine q_iald rfl rfl (by decide) (FW_22 S hW) (by decide) (q_tn (z := 0) rfl ?_)
        refine q_iconst rfl rfl ?_
        refine q_isub rfl rfl (q_tn (z := (-1)) rfl ?_)
        refine q_ist7 rfl rfl rfl rfl ?_
        refine q_iload rfl rfl rfl ?_
        refine q_ifge rfl rfl (fun c223 => absurd c223 (by decide)) (fun c223 => ?_)
        refine q_aload_n rfl rfl rfl ?_
        refine q_lload_n rfl rfl rfl ?_
        refine q_iload rfl rfl rfl ?_
        refine q_iload_n rfl rfl rfl ?_
        refine q_iload rfl rfl rfl ?_
        refine q_nV4 rfl rfl (Or.inl rfl) rfl rfl rfl (by decide) rfl ⟨rfl, rfl⟩ rfl ?_
        change PQ _ _ _ mm_X7_newNumber 0 [.ref 16, .long 0, pm_un, .int 0, .int (-1), .int (-1), pm_un] [] _ _ 0 0 _
        refine q_aload_n rfl rfl rfl ?_
        refine q_getf rfl rfl (by decide) rfl rfl ?_
        refine q_sipush rfl rfl ?_
        refine q_iclt rfl rfl (fun c224 => ?_) (fun c224 => absurd (by decide) c224)
        refine q_aload_n rfl rfl rfl ?_
        refine q_dupr rfl rfl ?_
        refine q_getf rfl rfl (by decide) rfl rfl ?_
        refine q_dupx1 rfl rfl ?_
        refine q_iconst rfl rfl ?_
        refine q_iadd rfl rfl (q_tn (z := 1) rfl ?_)
        refine q_putf rfl rfl (by decide) rfl (by decide) rfl trivial ?_
        refine q_ist6 rfl rfl rfl rfl ?_
        refine q_aload_n rfl rfl rfl ?_
        refine q_getf rfl rfl (by decide) rfl rfl ?_
        refine q_iload rfl rfl rfl ?_
        refine q_lload_n rfl rfl rfl ?_
        refine q_last rfl rfl (by decide) (FW_17 S hW) (by decide) ?_
        refine q_aload_n rfl rfl rfl ?_
        refine q_getf rfl rfl (by decide) rfl rfl ?_
        refine q_iload rfl rfl rfl ?_
        refine q_iload rfl rfl rfl ?_
        refine q_iast rfl rfl (by decide) (FW_18 S hW) (by decide) ?_
        refine q_aload_n rfl rfl rfl ?_
        refine q_getf rfl rfl (by decide) rfl rfl ?_
        refine q_iload rfl rfl rfl ?_
        refine q_iload rfl rfl rfl ?_
        refine q_iast rfl rfl (by decide) (FW_19 S hW) (by decide) ?_
        refine q_aload_n rfl rfl rfl ?_
        refine q_getf rfl rfl (by decide) rfl rfl ?_
        refine q_iload rfl rfl rfl ?_
        refine q_iload_n rfl rfl rfl ?_
        refine q_iast rfl rfl (by decide) (FW_23 S hW) (by decide) ?_
        refine q_aload_n rfl rfl rfl ?_
        refine q_getf rfl rfl (by decide) rfl rfl ?_
        refine q_iload_n rfl rfl rfl ?_
        refine q_iload rfl rfl rfl ?_
        refine q_iconst rfl rfl ?_
        refine q_iadd rfl rfl (q_tn (z := 1) rfl ?_)
        refine q_iast rfl rfl (by decide) (FW_22 S hW) (by decide) ?_
        refine q_iload rfl rfl rfl ?_
        refine q_iret rfl rfl trivial ?_
        refine ⟨_, rfl, ?_⟩
        refine q_iret rfl rfl trivial ?_
        refine ⟨_, rfl, ?_⟩
        refine q_pop rfl rfl ?_
        refine q_iconst rfl rfl ?_
        refine q_ist3n rfl rfl rfl rfl ?_
        refine q_iload_n rfl rfl rfl ?_
        refine q_sipush rfl rfl ?_
        refine q_icge rfl rfl (fun c225 => absurd c225 (by decide)) (fun c225 => ?_)
        refine q_iload_n rfl rfl rfl ?_
        refine q_aload_n rfl rfl rfl ?_
        refine q_getf rfl rfl (by decide) rfl rfl ?_
        refine q_icge rfl rfl (fun c226 => absurd c226 (by decide)) (fun c226 => ?_)
        refine q_aload_n rfl rfl rfl ?_
        refine q_aload_n rfl rfl rfl ?_
        refine q_iload_n rfl rfl rfl ?_
        refine q_nV2v rfl rfl (Or.inl rfl) rfl rfl rfl (by decide) rfl ⟨rfl, rfl⟩ rfl ?_
        change PQ _ _ _ mm_X7_lookAt 0 [.ref 16, .ref 7, .int 0, pm_un, pm_un, pm_un, pm_un, pm_un, pm_un, pm_un] [] _ _ 0 0 _
        refine q_aload_n rfl rfl rfl ?_
        refine q_getf rfl rfl (by decide) rfl rfl ?_
        refine q_iload_n rfl rfl rfl ?_
        refine q_lald rfl rfl (by decide) rfl (by decide) (q_tnl (z := 0) rfl ?_)
        refine q_lst3n rfl rfl rfl rfl ?_
        refine q_aload_n rfl rfl rfl ?_
        refine q_aload_n rfl rfl rfl ?_
        refine q_lload_n rfl rfl rfl ?_
        refine q_nV1 rfl rfl (Or.inl rfl) rfl rfl rfl (by decide) rfl ⟨rfl, rfl⟩ rfl ?_
        change PQ _ _ _ mm_X6_ableHands 0 [.ref 7, .long 0, pm_un, pm_un, pm_un, pm_un] [] _ _ 0 0 _
        refine q_aload_n rfl rfl rfl ?_
        refine q_lload_n rfl rfl rfl ?_
        refine q_nV1 rfl rfl (Or.inl rfl) rfl rfl rfl (by decide) rfl ⟨rfl, rfl⟩ rfl ?_
        change PQ _ _ _ mm_X6_allMeet 0 [.ref 7, .long 0, pm_un, pm_un, pm_un] [] _ _ 0 0 _
        refine q_iconst rfl rfl ?_
        refine q_ist3n rfl rfl rfl rfl ?_
        refine q_iload_n rfl rfl rfl ?_
        refine q_aload_n rfl rfl rfl ?_
        refine q_getf rfl rfl (by decide) rfl rfl ?_
        refine q_getf rfl rfl (by decide) (FW_1 S hW) rfl ?_
        refine q_icge rfl rfl (fun c227 => absurd c227 (by decide)) (fun c227 => ?_)
        refine q_aload_n rfl rfl rfl ?_
        refine q_getf rfl rfl (by decide) rfl rfl ?_
        refine q_iload_n rfl rfl rfl ?_
        refine q_lload_n rfl rfl rfl ?_
        refine q_iload_n rfl rfl rfl ?_
        refine q_nS2 rfl rfl (Or.inl rfl) rfl rfl ⟨rfl, rfl⟩ rfl ?_
        change PQ _ _ _ mm_X0_position 0 [.long 0, pm_un, .int 0] [] _ _ 0 0 _
        refine q_lload_n rfl rfl rfl ?_
        refine q_bipush rfl rfl ?_
        refine q_iload_n rfl rfl rfl ?_
        refine q_imul rfl rfl (q_tn (z := 0) rfl ?_)
        refine q_lushr rfl rfl (q_tnl (z := 0) rfl ?_)
        refine q_l2i rfl rfl (q_tn (z := 0) rfl ?_)
        refine q_bipush rfl rfl ?_
        refine q_iand rfl rfl (q_tn (z := 0) rfl ?_)
        refine q_iret rfl rfl trivial ?_
        refine ⟨_, rfl, ?_⟩
        refine q_nV2 rfl rfl (Or.inl rfl) rfl rfl rfl (by decide) (FW_1 S hW) ⟨rfl, rfl⟩ rfl ?_
        change PQ _ _ _ mm_X8_cellOf 0 [.ref 1, .int 0, .int 0, pm_un] [] _ _ 0 0 _
        refine q_iload_n rfl rfl rfl ?_
        refine q_iflt rfl rfl (fun c228 => absurd c228 (by decide)) (fun c228 => ?_)
        refine q_iload_n rfl rfl rfl ?_
        refine q_aload_n rfl rfl rfl ?_
        refine q_getf rfl rfl (by decide) (FW_1 S hW) rfl ?_
        refine q_icge rfl rfl (fun c229 => absurd c229 (by decide)) (fun c229 => ?_)
        refine q_iload_n rfl rfl rfl ?_
        refine q_iflt rfl rfl (fun c230 => absurd c230 (by decide)) (fun c230 => ?_)
        refine q_iload_n rfl rfl rfl ?_
        refine q_aload_n rfl rfl rfl ?_
        refine q_getf rfl rfl (by decide) (FW_1 S hW) rfl ?_
        refine q_iload_n rfl rfl rfl ?_
        refine q_iald rfl rfl (by decide) (FW_3 S hW) (by decide) (q_tn (z := 0) rfl ?_)
        refine q_icge rfl rfl (fun c231 => ?_) (fun c231 => absurd (by decide) c231)
        refine q_iconst rfl rfl ?_
        refine q_ist3n rfl rfl rfl rfl ?_
        refine q_iload_n rfl rfl rfl ?_
        refine q_ifeq rfl rfl (fun c232 => ?_) (fun c232 => absurd (by decide) c232)
        refine q_iconst rfl rfl ?_
        refine q_iret rfl rfl trivial ?_
        refine ⟨_, rfl, ?_⟩
        refine q_ist4 rfl rfl rfl rfl ?_
        refine q_iload rfl rfl rfl ?_
        refine q_iflt rfl rfl (fun c233 => ?_) (fun c233 => absurd (by decide) c233)
        refine q_icc3 (z := 1) rfl rfl rfl rfl rfl ?_
        refine q_goto rfl ?_
        refine q_iload_n rfl rfl rfl ?_
        refine q_aload_n rfl rfl rfl ?_
        refine q_getf rfl rfl (by decide) rfl rfl ?_
        refine q_getf rfl rfl (by decide) (FW_1 S hW) rfl ?_
        refine q_icge rfl rfl (fun c234 => ?_) (fun c234 => absurd (by decide) c234)
        refine q_iconst rfl rfl ?_
        refine q_iret rfl rfl rfl ?_
        refine ⟨_, rfl, ?_⟩
        refine q_ist3n rfl rfl rfl rfl ?_
        refine q_iconst rfl rfl ?_
        refine q_ist4 rfl rfl rfl rfl ?_
        refine q_iconst rfl rfl ?_
        refine q_ist5 rfl rfl rfl rfl ?_
        refine q_iload rfl rfl rfl ?_
        refine q_aload_n rfl rfl rfl ?_
        refine q_getf rfl rfl (by decide) rfl rfl ?_
        refine q_getf rfl rfl (by decide) (FW_1 S hW) rfl ?_
        refine q_icge rfl rfl (fun c235 => absurd c235 (by decide)) (fun c235 => ?_)
        refine q_aload_n rfl rfl rfl ?_
        refine q_lload_n rfl rfl rfl ?_
        refine q_iload rfl rfl rfl ?_
        refine q_iload_n rfl rfl rfl ?_
        refine q_nV3 rfl rfl (Or.inl rfl) rfl rfl rfl (by decide) rfl ⟨rfl, rfl⟩ rfl ?_
        change PQ _ _ _ mm_X6_isAble 0 [.ref 7, .long 0, pm_un, .int 0, .int 1, pm_un, pm_un, pm_un] [] _ _ 0 0 _
        refine q_aload_n rfl rfl rfl ?_
        refine q_getf rfl rfl (by decide) rfl rfl ?_
        refine q_iload_n rfl rfl rfl ?_
        refine q_lload_n rfl rfl rfl ?_
        refine q_iload_n rfl rfl rfl ?_
        refine q_nS2 rfl rfl (Or.inl rfl) rfl rfl ⟨rfl, rfl⟩ rfl ?_
        change PQ _ _ _ mm_X0_position 0 [.long 0, pm_un, .int 0] [] _ _ 0 0 _
        refine q_lload_n rfl rfl rfl ?_
        refine q_bipush rfl rfl ?_
        refine q_iload_n rfl rfl rfl ?_
        refine q_imul rfl rfl (q_tn (z := 0) rfl ?_)
        refine q_lushr rfl rfl (q_tnl (z := 0) rfl ?_)
        refine q_l2i rfl rfl (q_tn (z := 0) rfl ?_)
        refine q_bipush rfl rfl ?_
        refine q_iand rfl rfl (q_tn (z := 0) rfl ?_)
        refine q_iret rfl rfl trivial ?_
        refine ⟨_, rfl, ?_⟩
        refine q_nV2 rfl rfl (Or.inl rfl) rfl rfl rfl (by decide) (FW_1 S hW) ⟨rfl, rfl⟩ rfl ?_
        change PQ _ _ _ mm_X8_cellOf 0 [.ref 1, .int 0, .int 0, pm_un] [] _ _ 0 0 _
        refine q_iload_n rfl rfl rfl ?_
        refine q_iflt rfl rfl (fun c236 => absurd c236 (by decide)) (fun c236 => ?_)
        refine q_iload_n rfl rfl rfl ?_
        refine q_aload_n rfl rfl rfl ?_
        refine q_getf rfl rfl (by decide) (FW_1 S hW) rfl ?_
        refine q_icge rfl rfl (fun c237 => absurd c237 (by decide)) (fun c237 => ?_)
        refine q_iload_n rfl rfl rfl ?_
        refine q_iflt rfl rfl (fun c238 => absurd c238 (by decide)) (fun c238 => ?_)
        refine q_iload_n rfl rfl rfl ?_
        refine q_aload_n rfl rfl rfl ?_
        refine q_getf rfl rfl (by decide) (FW_1 S hW) rfl ?_
        refine q_iload_n rfl rfl rfl ?_
        refine q_iald rfl rfl (by decide) (FW_3 S hW) (by decide) (q_tn (z := 0) rfl ?_)
        refine q_icge rfl rfl (fun c239 => ?_) (fun c239 => absurd (by decide) c239)
        refine q_iconst rfl rfl ?_
        refine q_ist3n rfl rfl rfl rfl ?_
        refine q_iload_n rfl rfl rfl ?_
        refine q_ifeq rfl rfl (fun c240 => ?_) (fun c240 => absurd (by decide) c240)
        refine q_iconst rfl rfl ?_
        refine q_iret rfl rfl trivial ?_
        refine ⟨_, rfl, ?_⟩
        refine q_ist5 rfl rfl rfl rfl ?_
        refine q_iload rfl rfl rfl ?_
        refine q_ifge rfl rfl (fun c241 => absurd c241 (by decide)) (fun c241 => ?_)
        refine q_iconst rfl rfl ?_
        refine q_iret rfl rfl rfl ?_
        refine ⟨_, rfl, ?_⟩
        refine q_ifeq rfl rfl (fun c242 => ?_) (fun c242 => absurd (by decide) c242)
        refine q_icc5 (z := 1) rfl rfl rfl rfl rfl ?_
        refine q_goto rfl ?_
        refine q_iload rfl rfl rfl ?_
        refine q_aload_n rfl rfl rfl ?_
        refine q_getf rfl rfl (by decide) rfl rfl ?_
        refine q_getf rfl rfl (by decide) (FW_1 S hW) rfl ?_
        refine q_icge rfl rfl (fun c243 => ?_) (fun c243 => absurd (by decide) c243)
        refine q_iload rfl rfl rfl ?_
        refine q_iret rfl rfl trivial ?_
        refine ⟨_, rfl, ?_⟩
        refine q_lload_n rfl rfl rfl ?_
        refine q_nS1 rfl rfl (Or.inl rfl) rfl rfl ⟨rfl, rfl⟩ rfl ?_
        change PQ _ _ _ mm_X0_last 0 [.long 0, pm_un] [] _ _ 0 0 _
        refine q_lload_n rfl rfl rfl ?_
        refine q_bipush rfl rfl ?_
        refine q_lushr rfl rfl (q_tnl (z := 0) rfl ?_)
        refine q_l2i rfl rfl (q_tn (z := 0) rfl ?_)
        refine q_iconst rfl rfl ?_
        refine q_iand rfl rfl (q_tn (z := 0) rfl ?_)
        refine q_iconst rfl rfl ?_
        refine q_isub rfl rfl (q_tn (z := (-1)) rfl ?_)
        refine q_iret rfl rfl trivial ?_
        refine ⟨_, rfl, ?_⟩
        refine q_nV2 rfl rfl (Or.inl rfl) rfl rfl rfl (by decide) rfl ⟨rfl, rfl⟩ rfl ?_
        change PQ _ _ _ mm_X6_chosenHands 0 [.ref 7, .int 0, .int (-1), pm_un, pm_un] [] _ _ 0 0 _
        refine q_aload_n rfl rfl rfl ?_
        refine q_getf rfl rfl (by decide) rfl rfl ?_
        refine q_iconst rfl rfl ?_
        refine q_icne rfl rfl (fun c244 => ?_) (fun c244 => ?_)
        · subst c244
          refine q_iload_n rfl rfl rfl ?_
          refine q_iflt rfl rfl (fun c245 => ?_) (fun c245 => absurd (by decide) c245)
          refine q_aload_n rfl rfl rfl ?_
          refine q_getf rfl rfl (by decide) rfl rfl ?_
          refine q_iconst rfl rfl ?_
          refine q_iceq rfl rfl (fun c246 => absurd c246 (by decide)) (fun c246 => ?_)
          refine q_iload_n rfl rfl rfl ?_
          refine q_iret rfl rfl trivial ?_
          refine ⟨_, rfl, ?_⟩
          refine q_ist5 rfl rfl rfl rfl ?_
          refine q_iconst rfl rfl ?_
          refine q_ist6 rfl rfl rfl rfl ?_
          refine q_iload rfl rfl rfl ?_
          refine q_iconst rfl rfl ?_
          refine q_icge rfl rfl (fun c247 => absurd c247 (by decide)) (fun c247 => ?_)
          refine q_iconst rfl rfl ?_
          refine q_ist7 rfl rfl rfl rfl ?_
          refine q_iload rfl rfl rfl ?_
          refine q_iload rfl rfl rfl ?_
          refine q_iushr rfl rfl (q_tn (z := 0) rfl ?_)
          refine q_iconst rfl rfl ?_
          refine q_iand rfl rfl (q_tn (z := 0) rfl ?_)
          refine q_ifeq rfl rfl (fun c248 => ?_) (fun c248 => absurd (by decide) c248)
          refine q_aload_n rfl rfl rfl ?_
          refine q_getf rfl rfl (by decide) rfl rfl ?_
          refine q_iload_n rfl rfl rfl ?_
          refine q_iconst rfl rfl ?_
          refine q_imul rfl rfl (q_tn (z := 0) rfl ?_)
          refine q_iload rfl rfl rfl ?_
          refine q_iadd rfl rfl (q_tn (z := 0) rfl ?_)
          refine q_iload rfl rfl rfl ?_
          refine q_iast rfl rfl (by decide) (FW_21 S hW) (by decide) ?_
          refine q_icc6 (z := 1) rfl rfl rfl rfl rfl ?_
          refine q_goto rfl ?_
          refine q_iload rfl rfl rfl ?_
          refine q_iconst rfl rfl ?_
          refine q_icge rfl rfl (fun c249 => absurd c249 (by decide)) (fun c249 => ?_)
          refine q_iconst rfl rfl ?_
          refine q_ist7 rfl rfl rfl rfl ?_
          refine q_iload rfl rfl rfl ?_
          refine q_iload rfl rfl rfl ?_
          refine q_iushr rfl rfl (q_tn (z := 0) rfl ?_)
          refine q_iconst rfl rfl ?_
          refine q_iand rfl rfl (q_tn (z := 0) rfl ?_)
          refine q_ifeq rfl rfl (fun c250 => ?_) (fun c250 => absurd (by decide) c250)
          refine q_aload_n rfl rfl rfl ?_
          refine q_getf rfl rfl (by decide) rfl rfl ?_
          refine q_iload_n rfl rfl rfl ?_
          refine q_iconst rfl rfl ?_
          refine q_imul rfl rfl (q_tn (z := 0) rfl ?_)
          refine q_iload rfl rfl rfl ?_
          refine q_iadd rfl rfl (q_tn (z := 1) rfl ?_)
          refine q_iload rfl rfl rfl ?_
          refine q_iast rfl rfl (by decide) rfl (by decide) ?_
          refine q_icc6 (z := 2) rfl rfl rfl rfl rfl ?_
          refine q_goto rfl ?_
          refine q_iload rfl rfl rfl ?_
          refine q_iconst rfl rfl ?_
          refine q_icge rfl rfl (fun c251 => absurd c251 (by decide)) (fun c251 => ?_)
          refine q_iconst rfl rfl ?_
          refine q_ist7 rfl rfl rfl rfl ?_
          refine q_iload rfl rfl rfl ?_
          refine q_iload rfl rfl rfl ?_
          refine q_iushr rfl rfl (q_tn (z := 0) rfl ?_)
          refine q_iconst rfl rfl ?_
          refine q_iand rfl rfl (q_tn (z := 0) rfl ?_)
          refine q_ifeq rfl rfl (fun c252 => ?_) (fun c252 => absurd (by decide) c252)
          refine q_aload_n rfl rfl rfl ?_
          refine q_getf rfl rfl (by decide) rfl rfl ?_
          refine q_iload_n rfl rfl rfl ?_
          refine q_iconst rfl rfl ?_
          refine q_imul rfl rfl (q_tn (z := 0) rfl ?_)
          refine q_iload rfl rfl rfl ?_
          refine q_iadd rfl rfl (q_tn (z := 2) rfl ?_)
          refine q_iload rfl rfl rfl ?_
          refine q_iast rfl rfl (by decide) rfl (by decide) ?_
          refine q_icc6 (z := 3) rfl rfl rfl rfl rfl ?_
          refine q_goto rfl ?_
          refine q_iload rfl rfl rfl ?_
          refine q_iconst rfl rfl ?_
          refine q_icge rfl rfl (fun c253 => ?_) (fun c253 => absurd (by decide) c253)
          refine q_aload_n rfl rfl rfl ?_
          refine q_getf rfl rfl (by decide) rfl rfl ?_
          refine q_iload_n rfl rfl rfl ?_
          refine q_iload rfl rfl rfl ?_
          refine q_ifeq rfl rfl (fun c254 => ?_) (fun c254 => absurd (by decide) c254)
          refine q_aload_n rfl rfl rfl ?_
          refine q_lload_n rfl rfl rfl ?_
          refine q_nV1 rfl rfl (Or.inl rfl) rfl rfl rfl (by decide) rfl ⟨rfl, rfl⟩ rfl ?_
          change PQ _ _ _ mm_X6_isEnd 0 [.ref 7, .long 0, pm_un, pm_un] [] _ _ 0 0 _
          refine q_iconst rfl rfl ?_
          refine q_ist3n rfl rfl rfl rfl ?_
          refine q_iload_n rfl rfl rfl ?_
          refine q_aload_n rfl rfl rfl ?_
          refine q_getf rfl rfl (by decide) rfl rfl ?_
          refine q_getf rfl rfl (by decide) (FW_1 S hW) rfl ?_
          refine q_icge rfl rfl (fun c255 => absurd c255 (by decide)) (fun c255 => ?_)
          refine q_aload_n rfl rfl rfl ?_
          refine q_getf rfl rfl (by decide) rfl rfl ?_
          refine q_iload_n rfl rfl rfl ?_
          refine q_lload_n rfl rfl rfl ?_
          refine q_iload_n rfl rfl rfl ?_
          refine q_nS2 rfl rfl (Or.inl rfl) rfl rfl ⟨rfl, rfl⟩ rfl ?_
          change PQ _ _ _ mm_X0_position 0 [.long 0, pm_un, .int 0] [] _ _ 0 0 _
          refine q_lload_n rfl rfl rfl ?_
          refine q_bipush rfl rfl ?_
          refine q_iload_n rfl rfl rfl ?_
          refine q_imul rfl rfl (q_tn (z := 0) rfl ?_)
          refine q_lushr rfl rfl (q_tnl (z := 0) rfl ?_)
          refine q_l2i rfl rfl (q_tn (z := 0) rfl ?_)
          refine q_bipush rfl rfl ?_
          refine q_iand rfl rfl (q_tn (z := 0) rfl ?_)
          refine q_iret rfl rfl trivial ?_
          refine ⟨_, rfl, ?_⟩
          refine q_nV2 rfl rfl (Or.inl rfl) rfl rfl rfl (by decide) (FW_1 S hW) ⟨rfl, rfl⟩ rfl ?_
          change PQ _ _ _ mm_X8_cellOf 0 [.ref 1, .int 0, .int 0, pm_un] [] _ _ 0 0 _
          refine q_iload_n rfl rfl rfl ?_
          refine q_iflt rfl rfl (fun c256 => absurd c256 (by decide)) (fun c256 => ?_)
          refine q_iload_n rfl rfl rfl ?_
          refine q_aload_n rfl rfl rfl ?_
          refine q_getf rfl rfl (by decide) (FW_1 S hW) rfl ?_
          refine q_icge rfl rfl (fun c257 => absurd c257 (by decide)) (fun c257 => ?_)
          refine q_iload_n rfl rfl rfl ?_
          refine q_iflt rfl rfl (fun c258 => absurd c258 (by decide)) (fun c258 => ?_)
          refine q_iload_n rfl rfl rfl ?_
          refine q_aload_n rfl rfl rfl ?_
          refine q_getf rfl rfl (by decide) (FW_1 S hW) rfl ?_
          refine q_iload_n rfl rfl rfl ?_
          refine q_iald rfl rfl (by decide) (FW_3 S hW) (by decide) (q_tn (z := 0) rfl ?_)
          refine q_icge rfl rfl (fun c259 => ?_) (fun c259 => absurd (by decide) c259)
          refine q_iconst rfl rfl ?_
          refine q_ist3n rfl rfl rfl rfl ?_
          refine q_iload_n rfl rfl rfl ?_
          refine q_ifeq rfl rfl (fun c260 => ?_) (fun c260 => absurd (by decide) c260)
          refine q_iconst rfl rfl ?_
          refine q_iret rfl rfl trivial ?_
          refine ⟨_, rfl, ?_⟩
          refine q_iflt rfl rfl (fun c261 => ?_) (fun c261 => absurd (by decide) c261)
          refine q_icc3 (z := 1) rfl rfl rfl rfl rfl ?_
          refine q_goto rfl ?_
          refine q_iload_n rfl rfl rfl ?_
          refine q_aload_n rfl rfl rfl ?_
          refine q_getf rfl rfl (by decide) rfl rfl ?_
          refine q_getf rfl rfl (by decide) (FW_1 S hW) rfl ?_
          refine q_icge rfl rfl (fun c262 => ?_) (fun c262 => absurd (by decide) c262)
          refine q_iconst rfl rfl ?_
          refine q_iret rfl rfl rfl ?_
          refine ⟨_, rfl, ?_⟩
          refine q_ifeq rfl rfl (fun c263 => absurd c263 (by decide)) (fun c263 => ?_)
          refine q_iconst rfl rfl ?_
          refine q_goto rfl ?_
          refine q_iast rfl rfl (by decide) (FW_20 S hW) (by decide) ?_
          refine q_aload_n rfl rfl rfl ?_
          refine q_dupr rfl rfl ?_
          refine q_getf rfl rfl (by decide) rfl rfl ?_
          refine q_aload_n rfl rfl rfl ?_
          refine q_getf rfl rfl (by decide) rfl rfl ?_
          refine q_iload_n rfl rfl rfl ?_
          refine q_iald rfl rfl (by decide) rfl (by decide) (q_tn (z := 1) rfl ?_)
          refine q_iconst rfl rfl ?_
          refine q_iceq rfl rfl (fun c264 => absurd c264 (by decide)) (fun c264 => ?_)
          refine q_aload_n rfl rfl rfl ?_
          refine q_lload_n rfl rfl rfl ?_
          refine q_nV1 rfl rfl (Or.inl rfl) rfl rfl rfl (by decide) rfl ⟨rfl, rfl⟩ rfl ?_
          change PQ _ _ _ mm_X6_someFailed 0 [.ref 7, .long 0, pm_un, pm_un] [] _ _ 0 0 _
          refine q_iconst rfl rfl ?_
          refine q_ist3n rfl rfl rfl rfl ?_
          refine q_iload_n rfl rfl rfl ?_
          refine q_aload_n rfl rfl rfl ?_
          refine q_getf rfl rfl (by decide) rfl rfl ?_
          refine q_getf rfl rfl (by decide) (FW_1 S hW) rfl ?_
          refine q_icge rfl rfl (fun c265 => absurd c265 (by decide)) (fun c265 => ?_)
          refine q_lload_n rfl rfl rfl ?_
          refine q_iload_n rfl rfl rfl ?_
          refine q_nS2 rfl rfl (Or.inl rfl) rfl rfl ⟨rfl, rfl⟩ rfl ?_
          change PQ _ _ _ mm_X0_position 0 [.long 0, pm_un, .int 0] [] _ _ 0 0 _
          refine q_lload_n rfl rfl rfl ?_
          refine q_bipush rfl rfl ?_
          refine q_iload_n rfl rfl rfl ?_
          refine q_imul rfl rfl (q_tn (z := 0) rfl ?_)
          refine q_lushr rfl rfl (q_tnl (z := 0) rfl ?_)
          refine q_l2i rfl rfl (q_tn (z := 0) rfl ?_)
          refine q_bipush rfl rfl ?_
          refine q_iand rfl rfl (q_tn (z := 0) rfl ?_)
          refine q_iret rfl rfl trivial ?_
          refine ⟨_, rfl, ?_⟩
          refine q_bipush rfl rfl ?_
          refine q_icne rfl rfl (fun c266 => absurd c266 (by decide)) (fun c266 => ?_)
          refine q_icc3 (z := 1) rfl rfl rfl rfl rfl ?_
          refine q_goto rfl ?_
          refine q_iload_n rfl rfl rfl ?_
          refine q_aload_n rfl rfl rfl ?_
          refine q_getf rfl rfl (by decide) rfl rfl ?_
          refine q_getf rfl rfl (by decide) (FW_1 S hW) rfl ?_
          refine q_icge rfl rfl (fun c267 => ?_) (fun c267 => absurd (by decide) c267)
          refine q_iconst rfl rfl ?_
          refine q_iret rfl rfl rfl ?_
          refine ⟨_, rfl, ?_⟩
          refine q_ifeq rfl rfl (fun c268 => ?_) (fun c268 => absurd (by decide) c268)
          refine q_iconst rfl rfl ?_
          refine q_ior rfl rfl (q_tn (z := 0) rfl ?_)
          refine q_putf rfl rfl (by decide) rfl (by decide) rfl rfl ?_
          refine q_aload_n rfl rfl rfl ?_
          refine q_getf rfl rfl (by decide) rfl rfl ?_
          refine q_iload_n rfl rfl rfl ?_
          refine q_iald rfl rfl (by decide) rfl (by decide) (q_tn (z := 1) rfl ?_)
          refine q_iconst rfl rfl ?_
          refine q_icne rfl rfl (fun c269 => ?_) (fun c269 => absurd (by decide) c269)
          refine q_aload_n rfl rfl rfl ?_
          refine q_lload_n rfl rfl rfl ?_
          refine q_nV1v rfl rfl (Or.inl rfl) rfl rfl rfl (by decide) rfl ⟨rfl, rfl⟩ rfl ?_
          change PQ _ _ _ mm_X7_noteEnd 0 [.ref 16, .long 0, pm_un, pm_un] [] _ _ 0 0 _
          refine q_iconst rfl rfl ?_
          refine q_ist3n rfl rfl rfl rfl ?_
          refine q_iload_n rfl rfl rfl ?_
          refine q_iconst rfl rfl ?_
          refine q_icge rfl rfl (fun c270 => absurd c270 (by decide)) (fun c270 => ?_)
          refine q_aload_n rfl rfl rfl ?_
          refine q_dupr rfl rfl ?_
          refine q_getf rfl rfl (by decide) rfl rfl ?_
          refine q_lconst rfl rfl ?_
          refine q_bipush rfl rfl ?_
          refine q_iload_n rfl rfl rfl ?_
          refine q_imul rfl rfl (q_tn (z := 0) rfl ?_)
          refine q_lload_n rfl rfl rfl ?_
          refine q_iload_n rfl rfl rfl ?_
          refine q_nS2 rfl rfl (Or.inl rfl) rfl rfl ⟨rfl, rfl⟩ rfl ?_
          change PQ _ _ _ mm_X0_place 0 [.long 0, pm_un, .int 0] [] _ _ 0 0 _
          refine q_lload_n rfl rfl rfl ?_
          refine q_bipush rfl rfl ?_
          refine q_iconst rfl rfl ?_
          refine q_iload_n rfl rfl rfl ?_
          refine q_imul rfl rfl (q_tn (z := 0) rfl ?_)
          refine q_iadd rfl rfl (q_tn (z := 36) rfl ?_)
          refine q_lushr rfl rfl (q_tnl (z := 0) rfl ?_)
          refine q_l2i rfl rfl (q_tn (z := 0) rfl ?_)
          refine q_bipush rfl rfl ?_
          refine q_iand rfl rfl (q_tn (z := 0) rfl ?_)
          refine q_iret rfl rfl trivial ?_
          refine ⟨_, rfl, ?_⟩
          refine q_iadd rfl rfl (q_tn (z := 0) rfl ?_)
          refine q_lshl rfl rfl (q_tnl (z := 1) rfl ?_)
          refine q_lor rfl rfl (q_tnl (z := 1) rfl ?_)
          refine q_putf rfl rfl (by decide) rfl (by decide) rfl trivial ?_
          refine q_icc3 (z := 1) rfl rfl rfl rfl rfl ?_
          refine q_goto rfl ?_
          refine q_iload_n rfl rfl rfl ?_
          refine q_iconst rfl rfl ?_
          refine q_icge rfl rfl (fun c271 => absurd c271 (by decide)) (fun c271 => ?_)
          refine q_aload_n rfl rfl rfl ?_
          refine q_dupr rfl rfl ?_
          refine q_getf rfl rfl (by decide) rfl rfl ?_
          refine q_lconst rfl rfl ?_
          refine q_bipush rfl rfl ?_
          refine q_iload_n rfl rfl rfl ?_
          refine q_imul rfl rfl (q_tn (z := 10) rfl ?_)
          refine q_lload_n rfl rfl rfl ?_
          refine q_iload_n rfl rfl rfl ?_
          refine q_nS2 rfl rfl (Or.inl rfl) rfl rfl ⟨rfl, rfl⟩ rfl ?_
          change PQ _ _ _ mm_X0_place 0 [.long 0, pm_un, .int 1] [] _ _ 0 0 _
          refine q_lload_n rfl rfl rfl ?_
          refine q_bipush rfl rfl ?_
          refine q_iconst rfl rfl ?_
          refine q_iload_n rfl rfl rfl ?_
          refine q_imul rfl rfl (q_tn (z := 4) rfl ?_)
          refine q_iadd rfl rfl (q_tn (z := 40) rfl ?_)
          refine q_lushr rfl rfl (q_tnl (z := 0) rfl ?_)
          refine q_l2i rfl rfl (q_tn (z := 0) rfl ?_)
          refine q_bipush rfl rfl ?_
          refine q_iand rfl rfl (q_tn (z := 0) rfl ?_)
          refine q_iret rfl rfl trivial ?_
          refine ⟨_, rfl, ?_⟩
          refine q_iadd rfl rfl (q_tn (z := 10) rfl ?_)
          refine q_lshl rfl rfl (q_tnl (z := 1024) rfl ?_)
          refine q_lor rfl rfl (q_tnl (z := 1025) rfl ?_)
          refine q_putf rfl rfl (by decide) rfl (by decide) rfl trivial ?_
          refine q_icc3 (z := 2) rfl rfl rfl rfl rfl ?_
          refine q_goto rfl ?_
          refine q_iload_n rfl rfl rfl ?_
          refine q_iconst rfl rfl ?_
          refine q_icge rfl rfl (fun c272 => absurd c272 (by decide)) (fun c272 => ?_)
          refine q_aload_n rfl rfl rfl ?_
          refine q_dupr rfl rfl ?_
          refine q_getf rfl rfl (by decide) rfl rfl ?_
          refine q_lconst rfl rfl ?_
          refine q_bipush rfl rfl ?_
          refine q_iload_n rfl rfl rfl ?_
          refine q_imul rfl rfl (q_tn (z := 20) rfl ?_)
          refine q_lload_n rfl rfl rfl ?_
          refine q_iload_n rfl rfl rfl ?_
          refine q_nS2 rfl rfl (Or.inl rfl) rfl rfl ⟨rfl, rfl⟩ rfl ?_
          change PQ _ _ _ mm_X0_place 0 [.long 0, pm_un, .int 2] [] _ _ 0 0 _
          refine q_lload_n rfl rfl rfl ?_
          refine q_bipush rfl rfl ?_
          refine q_iconst rfl rfl ?_
          refine q_iload_n rfl rfl rfl ?_
          refine q_imul rfl rfl (q_tn (z := 8) rfl ?_)
          refine q_iadd rfl rfl (q_tn (z := 44) rfl ?_)
          refine q_lushr rfl rfl (q_tnl (z := 0) rfl ?_)
          refine q_l2i rfl rfl (q_tn (z := 0) rfl ?_)
          refine q_bipush rfl rfl ?_
          refine q_iand rfl rfl (q_tn (z := 0) rfl ?_)
          refine q_iret rfl rfl trivial ?_
          refine ⟨_, rfl, ?_⟩
          refine q_iadd rfl rfl (q_tn (z := 20) rfl ?_)
          refine q_lshl rfl rfl (q_tnl (z := 1048576) rfl ?_)
          refine q_lor rfl rfl (q_tnl (z := 1049601) rfl ?_)
          refine q_putf rfl rfl (by decide) rfl (by decide) rfl trivial ?_
          refine q_icc3 (z := 3) rfl rfl rfl rfl rfl ?_
          refine q_goto rfl ?_
          refine q_iload_n rfl rfl rfl ?_
          refine q_iconst rfl rfl ?_
          refine q_icge rfl rfl (fun c273 => absurd c273 (by decide)) (fun c273 => ?_)
          refine q_aload_n rfl rfl rfl ?_
          refine q_dupr rfl rfl ?_
          refine q_getf rfl rfl (by decide) rfl rfl ?_
          refine q_lconst rfl rfl ?_
          refine q_bipush rfl rfl ?_
          refine q_iload_n rfl rfl rfl ?_
          refine q_imul rfl rfl (q_tn (z := 30) rfl ?_)
          refine q_lload_n rfl rfl rfl ?_
          refine q_iload_n rfl rfl rfl ?_
          refine q_nS2 rfl rfl (Or.inl rfl) rfl rfl ⟨rfl, rfl⟩ rfl ?_
          change PQ _ _ _ mm_X0_place 0 [.long 0, pm_un, .int 3] [] _ _ 0 0 _
          refine q_lload_n rfl rfl rfl ?_
          refine q_bipush rfl rfl ?_
          refine q_iconst rfl rfl ?_
          refine q_iload_n rfl rfl rfl ?_
          refine q_imul rfl rfl (q_tn (z := 12) rfl ?_)
          refine q_iadd rfl rfl (q_tn (z := 48) rfl ?_)
          refine q_lushr rfl rfl (q_tnl (z := 0) rfl ?_)
          refine q_l2i rfl rfl (q_tn (z := 0) rfl ?_)
          refine q_bipush rfl rfl ?_
          refine q_iand rfl rfl (q_tn (z := 0) rfl ?_)
          refine q_iret rfl rfl trivial ?_
          refine ⟨_, rfl, ?_⟩
          refine q_iadd rfl rfl (q_tn (z := 30) rfl ?_)
          refine q_lshl rfl rfl (q_tnl (z := 1073741824) rfl ?_)
          refine q_lor rfl rfl (q_tnl (z := 1074791425) rfl ?_)
          refine q_putf rfl rfl (by decide) rfl (by decide) rfl trivial ?_
          refine q_icc3 (z := 4) rfl rfl rfl rfl rfl ?_
          refine q_goto rfl ?_
          refine q_iload_n rfl rfl rfl ?_
          refine q_iconst rfl rfl ?_
          refine q_icge rfl rfl (fun c274 => ?_) (fun c274 => absurd (by decide) c274)
          refine q_ret rfl rfl ?_
          refine ⟨rfl, ?_⟩
          refine q_ret rfl rfl ?_
          refine ⟨rfl, ?_⟩
          refine q_aload_n rfl rfl rfl ?_
          refine q_getf rfl rfl (by decide) rfl rfl ?_
          refine q_ifne rfl rfl (fun c275 => ?_) (fun c275 => absurd (by decide) c275)
          refine q_iload_n rfl rfl rfl ?_
          refine q_ifeq rfl rfl (fun c276 => ?_) (fun c276 => absurd (by decide) c276)
          refine q_icc3 (z := 1) rfl rfl rfl rfl rfl ?_
          refine q_goto rfl ?_
          refine q_iload_n rfl rfl rfl ?_
          refine q_sipush rfl rfl ?_
          refine q_icge rfl rfl (fun c277 => absurd c277 (by decide)) (fun c277 => ?_)
          refine q_iload_n rfl rfl rfl ?_
          refine q_aload_n rfl rfl rfl ?_
          refine q_getf rfl rfl (by decide) rfl rfl ?_
          refine q_icge rfl rfl (fun c278 => ?_) (fun c278 => absurd (by decide) c278)
          refine q_ret rfl rfl ?_
          refine ⟨rfl, ?_⟩
          refine q_aload_n rfl rfl rfl ?_
          refine q_getf rfl rfl (by decide) (FW_0 S hW) rfl ?_
          refine q_iconst rfl rfl ?_
          refine q_putf rfl rfl (by decide) rfl (Nat.lt_of_lt_of_le (Nat.lt_succ_self _) (Nat.le_of_ble_eq_true rfl)) rfl trivial ?_
          refine q_aload_n rfl rfl rfl ?_
          refine q_getf rfl rfl (by decide) (FW_0 S hW) rfl ?_
          refine q_iload_n rfl rfl rfl ?_
          refine q_aload_n rfl rfl rfl ?_
          refine q_getf rfl rfl (by decide) rfl rfl ?_
          refine q_ifeq rfl rfl (fun c279 => ?_) (fun c279 => absurd (by decide) c279)
          refine q_aload_n rfl rfl rfl ?_
          refine q_getf rfl rfl (by decide) rfl rfl ?_
          refine q_iast rfl rfl (by decide) (FW_44 S hW) (by decide) ?_
          refine q_aload_n rfl rfl rfl ?_
          refine q_getf rfl rfl (by decide) (FW_0 S hW) rfl ?_
          refine q_iload_n rfl rfl rfl ?_
          refine q_aload_n rfl rfl rfl ?_
          refine q_getf rfl rfl (by decide) rfl rfl ?_
          refine q_last rfl rfl (by decide) (FW_45 S hW) (by decide) ?_
          refine q_aload_n rfl rfl rfl ?_
          refine q_getf rfl rfl (by decide) (FW_0 S hW) rfl ?_
          refine q_iload_n rfl rfl rfl ?_
          refine q_iald rfl rfl (by decide) rfl (by decide) (q_tn (z := 1) rfl ?_)
          refine q_iret rfl rfl trivial ?_
          refine ⟨_, rfl, ?_⟩
          refine q_goto rfl ?_
          refine q_iret rfl rfl trivial ?_
          refine ⟨_, rfl, ?_⟩
          refine q_aload_n rfl rfl rfl ?_
          refine q_aload_nF rfl rfl rfl ?_
          refine q_iload rfl rfl rfl ?_
          refine q_iconst rfl rfl ?_
          refine q_iadd rfl rfl (q_tn (z := 1) rfl ?_)
          refine q_ialdX (x := 1) rfl rfl rfl hx1 ?_
          refine q_nV1 rfl rfl (Or.inl rfl) rfl rfl rfl (by decide) (FW_46 S hW) ⟨rfl, rfl⟩ rfl ?_
          change PQ _ _ _ mm_X12_states 0 [.ref 46, .int 1] [] _ _ 0 0 _
          refine q_aload_n rfl rfl rfl ?_
          refine q_iload_n rfl rfl rfl ?_
          refine q_iconst rfl rfl ?_
          refine q_iconst rfl rfl ?_
          refine q_nV3 rfl rfl (Or.inl rfl) rfl rfl rfl (by decide) (FW_46 S hW) ⟨rfl, rfl⟩ rfl ?_
          change PQ _ _ _ mm_X12_in 0 [.ref 46, .int 1, .int 0, .int 4] [] _ _ 0 0 _
          refine q_iload_n rfl rfl rfl ?_
          refine q_iload_n rfl rfl rfl ?_
          refine q_iclt rfl rfl (fun c280 => absurd c280 (by decide)) (fun c280 => ?_)
          refine q_iload_n rfl rfl rfl ?_
          refine q_iload_n rfl rfl rfl ?_
          refine q_icgt rfl rfl (fun c281 => absurd c281 (by decide)) (fun c281 => ?_)
          refine q_iconst rfl rfl ?_
          refine q_goto rfl ?_
          refine q_iret rfl rfl rfl ?_
          refine ⟨_, rfl, ?_⟩
          refine q_ifne rfl rfl (fun c282 => absurd c282 (by decide)) (fun c282 => ?_)
          refine q_aload_n rfl rfl rfl ?_
          refine q_iload_n rfl rfl rfl ?_
          refine q_nV1 rfl rfl (Or.inl rfl) rfl rfl rfl (by decide) (FW_46 S hW) ⟨rfl, rfl⟩ rfl ?_
          change PQ _ _ _ mm_X12_isSpent 0 [.ref 46, .int 1, pm_un, pm_un, pm_un] [] _ _ 0 0 _
          refine q_iload_n rfl rfl rfl ?_
          refine q_ifne rfl rfl (fun c283 => absurd c283 (by decide)) (fun c283 => ?_)
          refine q_iconst rfl rfl ?_
          refine q_ist2n rfl rfl rfl rfl ?_
          refine q_aload_n rfl rfl rfl ?_
          refine q_iconst rfl rfl ?_
          refine q_putf rfl rfl (by decide) (FW_46 S hW) (by decide) rfl trivial ?_
          refine q_aload_n rfl rfl rfl ?_
          refine q_getf rfl rfl (by decide) rfl rfl ?_
          refine q_iload_n rfl rfl rfl ?_
          refine q_iald rfl rfl (by decide) (FW_62 S hW) (by decide) (q_tn (z := 0) rfl ?_)
          refine q_ifeq rfl rfl (fun c284 => ?_) (fun c284 => absurd (by decide) c284)
          refine q_aload_n rfl rfl rfl ?_
          refine q_getf rfl rfl (by decide) rfl rfl ?_
          refine q_iload_n rfl rfl rfl ?_
          refine q_aload_n rfl rfl rfl ?_
          refine q_iload_n rfl rfl rfl ?_
          refine q_iload_n rfl rfl rfl ?_
          refine q_nV2 rfl rfl (Or.inl rfl) rfl rfl rfl (by decide) rfl ⟨rfl, rfl⟩ rfl ?_
          change PQ _ _ _ mm_X12_explore 0 [.ref 46, .int 1, .int 1, pm_un, pm_un, pm_un, pm_un, pm_un] [] _ _ 0 0 _
          refine q_iconst rfl rfl ?_
          refine q_ist3n rfl rfl rfl rfl ?_
          refine l_net (R := 1) (by decide) rfl (by decide) rfl rfl (FW_61 S hW) ?_
          refine q_aload_n rfl rfl rfl ?_
          refine q_getf rfl rfl (by decide) rfl rfl ?_
          refine q_iload_n rfl rfl rfl ?_
          refine q_iconst rfl rfl ?_
          refine q_iast rfl rfl (by decide) (FW_60 S hW) (by decide) ?_
          refine q_aload_n rfl rfl rfl ?_
          refine q_nV0v rfl rfl (Or.inl rfl) rfl rfl rfl (by decide) rfl ⟨rfl, rfl⟩ rfl ?_
          change PQ _ _ _ mm_X12_firstState 0 [.ref 46, pm_un] [] _ _ 0 0 _
          refine q_iconst rfl rfl ?_
          refine q_ist1n rfl rfl rfl rfl ?_
          refine q_iload_n rfl rfl rfl ?_
          refine q_bipush rfl rfl ?_
          refine q_icge rfl rfl (fun c285 => absurd c285 (by decide)) (fun c285 => ?_)
          refine q_aload_n rfl rfl rfl ?_
          refine q_getf rfl rfl (by decide) rfl rfl ?_
          refine q_iload_n rfl rfl rfl ?_
          refine q_iconst rfl rfl ?_
          refine q_iast rfl rfl (by decide) (FW_52 S hW) (by decide) ?_
          refine q_icc1 (z := 1) rfl rfl rfl rfl rfl ?_
          refine q_goto rfl ?_
          refine q_iload_n rfl rfl rfl ?_
          refine q_bipush rfl rfl ?_
          refine q_icge rfl rfl (fun c286 => absurd c286 (by decide)) (fun c286 => ?_)
          refine q_aload_n rfl rfl rfl ?_
          refine q_getf rfl rfl (by decide) rfl rfl ?_
          refine q_iload_n rfl rfl rfl ?_
          refine q_iconst rfl rfl ?_
          refine q_iast rfl rfl (by decide) rfl (by decide) ?_
          refine q_icc1 (z := 2) rfl rfl rfl rfl rfl ?_
          refine q_goto rfl ?_
          refine q_iload_n rfl rfl rfl ?_
          refine q_bipush rfl rfl ?_
          refine q_icge rfl rfl (fun c287 => absurd c287 (by decide)) (fun c287 => ?_)
          refine q_aload_n rfl rfl rfl ?_
          refine q_getf rfl rfl (by decide) rfl rfl ?_
          refine q_iload_n rfl rfl rfl ?_
          refine q_iconst rfl rfl ?_
          refine q_iast rfl rfl (by decide) rfl (by decide) ?_
          refine q_icc1 (z := 3) rfl rfl rfl rfl rfl ?_
          refine q_goto rfl ?_
          refine q_iload_n rfl rfl rfl ?_
          refine q_bipush rfl rfl ?_
          refine q_icge rfl rfl (fun c288 => absurd c288 (by decide)) (fun c288 => ?_)
          refine q_aload_n rfl rfl rfl ?_
          refine q_getf rfl rfl (by decide) rfl rfl ?_
          refine q_iload_n rfl rfl rfl ?_
          refine q_iconst rfl rfl ?_
          refine q_iast rfl rfl (by decide) rfl (by decide) ?_
          refine q_icc1 (z := 4) rfl rfl rfl rfl rfl ?_
          refine q_goto rfl ?_
          refine q_iload_n rfl rfl rfl ?_
          refine q_bipush rfl rfl ?_
          refine q_icge rfl rfl (fun c289 => absurd c289 (by decide)) (fun c289 => ?_)
          refine q_aload_n rfl rfl rfl ?_
          refine q_getf rfl rfl (by decide) rfl rfl ?_
          refine q_iload_n rfl rfl rfl ?_
          refine q_iconst rfl rfl ?_
          refine q_iast rfl rfl (by decide) rfl (by decide) ?_
          refine q_icc1 (z := 5) rfl rfl rfl rfl rfl ?_
          refine q_goto rfl ?_
          refine q_iload_n rfl rfl rfl ?_
          refine q_bipush rfl rfl ?_
          refine q_icge rfl rfl (fun c290 => absurd c290 (by decide)) (fun c290 => ?_)
          refine q_aload_n rfl rfl rfl ?_
          refine q_getf rfl rfl (by decide) rfl rfl ?_
          refine q_iload_n rfl rfl rfl ?_
          refine q_iconst rfl rfl ?_
          refine q_iast rfl rfl (by decide) rfl (by decide) ?_
          refine q_icc1 (z := 6) rfl rfl rfl rfl rfl ?_
          refine q_goto rfl ?_
          refine q_iload_n rfl rfl rfl ?_
          refine q_bipush rfl rfl ?_
          refine q_icge rfl rfl (fun c291 => absurd c291 (by decide)) (fun c291 => ?_)
          refine q_aload_n rfl rfl rfl ?_
          refine q_getf rfl rfl (by decide) rfl rfl ?_
          refine q_iload_n rfl rfl rfl ?_
          refine q_iconst rfl rfl ?_
          refine q_iast rfl rfl (by decide) rfl (by decide) ?_
          refine q_icc1 (z := 7) rfl rfl rfl rfl rfl ?_
          refine q_goto rfl ?_
          refine q_iload_n rfl rfl rfl ?_
          refine q_bipush rfl rfl ?_
          refine q_icge rfl rfl (fun c292 => absurd c292 (by decide)) (fun c292 => ?_)
          refine q_aload_n rfl rfl rfl ?_
          refine q_getf rfl rfl (by decide) rfl rfl ?_
          refine q_iload_n rfl rfl rfl ?_
          refine q_iconst rfl rfl ?_
          refine q_iast rfl rfl (by decide) rfl (by decide) ?_
          refine q_icc1 (z := 8) rfl rfl rfl rfl rfl ?_
          refine q_goto rfl ?_
          refine q_iload_n rfl rfl rfl ?_
          refine q_bipush rfl rfl ?_
          refine q_icge rfl rfl (fun c293 => absurd c293 (by decide)) (fun c293 => ?_)
          refine q_aload_n rfl rfl rfl ?_
          refine q_getf rfl rfl (by decide) rfl rfl ?_
          refine q_iload_n rfl rfl rfl ?_
          refine q_iconst rfl rfl ?_
          refine q_iast rfl rfl (by decide) rfl (by decide) ?_
          refine q_icc1 (z := 9) rfl rfl rfl rfl rfl ?_
          refine q_goto rfl ?_
          refine q_iload_n rfl rfl rfl ?_
          refine q_bipush rfl rfl ?_
          refine q_icge rfl rfl (fun c294 => absurd c294 (by decide)) (fun c294 => ?_)
          refine q_aload_n rfl rfl rfl ?_
          refine q_getf rfl rfl (by decide) rfl rfl ?_
          refine q_iload_n rfl rfl rfl ?_
          refine q_iconst rfl rfl ?_
          refine q_iast rfl rfl (by decide) rfl (by decide) ?_
          refine q_icc1 (z := 10) rfl rfl rfl rfl rfl ?_
          refine q_goto rfl ?_
          refine q_iload_n rfl rfl rfl ?_
          refine q_bipush rfl rfl ?_
          refine q_icge rfl rfl (fun c295 => absurd c295 (by decide)) (fun c295 => ?_)
          refine q_aload_n rfl rfl rfl ?_
          refine q_getf rfl rfl (by decide) rfl rfl ?_
          refine q_iload_n rfl rfl rfl ?_
          refine q_iconst rfl rfl ?_
          refine q_iast rfl rfl (by decide) rfl (by decide) ?_
          refine q_icc1 (z := 11) rfl rfl rfl rfl rfl ?_
          refine q_goto rfl ?_
          refine q_iload_n rfl rfl rfl ?_
          refine q_bipush rfl rfl ?_
          refine q_icge rfl rfl (fun c296 => absurd c296 (by decide)) (fun c296 => ?_)
          refine q_aload_n rfl rfl rfl ?_
          refine q_getf rfl rfl (by decide) rfl rfl ?_
          refine q_iload_n rfl rfl rfl ?_
          refine q_iconst rfl rfl ?_
          refine q_iast rfl rfl (by decide) rfl (by decide) ?_
          refine q_icc1 (z := 12) rfl rfl rfl rfl rfl ?_
          refine q_goto rfl ?_
          refine q_iload_n rfl rfl rfl ?_
          refine q_bipush rfl rfl ?_
          refine q_icge rfl rfl (fun c297 => absurd c297 (by decide)) (fun c297 => ?_)
          refine q_aload_n rfl rfl rfl ?_
          refine q_getf rfl rfl (by decide) rfl rfl ?_
          refine q_iload_n rfl rfl rfl ?_
          refine q_iconst rfl rfl ?_
          refine q_iast rfl rfl (by decide) rfl (by decide) ?_
          refine q_icc1 (z := 13) rfl rfl rfl rfl rfl ?_
          refine q_goto rfl ?_
          refine q_iload_n rfl rfl rfl ?_
          refine q_bipush rfl rfl ?_
          refine q_icge rfl rfl (fun c298 => absurd c298 (by decide)) (fun c298 => ?_)
          refine q_aload_n rfl rfl rfl ?_
          refine q_getf rfl rfl (by decide) rfl rfl ?_
          refine q_iload_n rfl rfl rfl ?_
          refine q_iconst rfl rfl ?_
          refine q_iast rfl rfl (by decide) rfl (by decide) ?_
          refine q_icc1 (z := 14) rfl rfl rfl rfl rfl ?_
          refine q_goto rfl ?_
          refine q_iload_n rfl rfl rfl ?_
          refine q_bipush rfl rfl ?_
          refine q_icge rfl rfl (fun c299 => absurd c299 (by decide)) (fun c299 => ?_)
          refine q_aload_n rfl rfl rfl ?_
          refine q_getf rfl rfl (by decide) rfl rfl ?_
          refine q_iload_n rfl rfl rfl ?_
          refine q_iconst rfl rfl ?_
          refine q_iast rfl rfl (by decide) rfl (by decide) ?_
          refine q_icc1 (z := 15) rfl rfl rfl rfl rfl ?_
          refine q_goto rfl ?_
          refine q_iload_n rfl rfl rfl ?_
          refine q_bipush rfl rfl ?_
          refine q_icge rfl rfl (fun c300 => absurd c300 (by decide)) (fun c300 => ?_)
          refine q_aload_n rfl rfl rfl ?_
          refine q_getf rfl rfl (by decide) rfl rfl ?_
          refine q_iload_n rfl rfl rfl ?_
          refine q_iconst rfl rfl ?_
          refine q_iast rfl rfl (by decide) rfl (by decide) ?_
          refine q_icc1 (z := 16) rfl rfl rfl rfl rfl ?_
          refine q_goto rfl ?_
          refine q_iload_n rfl rfl rfl ?_
          refine q_bipush rfl rfl ?_
          refine q_icge rfl rfl (fun c301 => absurd c301 (by decide)) (fun c301 => ?_)
          refine q_aload_n rfl rfl rfl ?_
          refine q_getf rfl rfl (by decide) rfl rfl ?_
          refine q_iload_n rfl rfl rfl ?_
          refine q_iconst rfl rfl ?_
          refine q_iast rfl rfl (by decide) rfl (by decide) ?_
          refine q_icc1 (z := 17) rfl rfl rfl rfl rfl ?_
          refine q_goto rfl ?_
          refine q_iload_n rfl rfl rfl ?_
          refine q_bipush rfl rfl ?_
          refine q_icge rfl rfl (fun c302 => absurd c302 (by decide)) (fun c302 => ?_)
          refine q_aload_n rfl rfl rfl ?_
          refine q_getf rfl rfl (by decide) rfl rfl ?_
          refine q_iload_n rfl rfl rfl ?_
          refine q_iconst rfl rfl ?_
          refine q_iast rfl rfl (by decide) rfl (by decide) ?_
          refine q_icc1 (z := 18) rfl rfl rfl rfl rfl ?_
          refine q_goto rfl ?_
          refine q_iload_n rfl rfl rfl ?_
          refine q_bipush rfl rfl ?_
          refine q_icge rfl rfl (fun c303 => absurd c303 (by decide)) (fun c303 => ?_)
          refine q_aload_n rfl rfl rfl ?_
          refine q_getf rfl rfl (by decide) rfl rfl ?_
          refine q_iload_n rfl rfl rfl ?_
          refine q_iconst rfl rfl ?_
          refine q_iast rfl rfl (by decide) rfl (by decide) ?_
          refine q_icc1 (z := 19) rfl rfl rfl rfl rfl ?_
          refine q_goto rfl ?_
          refine q_iload_n rfl rfl rfl ?_
          refine q_bipush rfl rfl ?_
          refine q_icge rfl rfl (fun c304 => absurd c304 (by decide)) (fun c304 => ?_)
          refine q_aload_n rfl rfl rfl ?_
          refine q_getf rfl rfl (by decide) rfl rfl ?_
          refine q_iload_n rfl rfl rfl ?_
          refine q_iconst rfl rfl ?_
          refine q_iast rfl rfl (by decide) rfl (by decide) ?_
          refine q_icc1 (z := 20) rfl rfl rfl rfl rfl ?_
          refine q_goto rfl ?_
          refine q_iload_n rfl rfl rfl ?_
          refine q_bipush rfl rfl ?_
          refine q_icge rfl rfl (fun c305 => ?_) (fun c305 => absurd (by decide) c305)
          refine q_iconst rfl rfl ?_
          refine q_ist1n rfl rfl rfl rfl ?_
          refine q_iload_n rfl rfl rfl ?_
          refine q_aload_n rfl rfl rfl ?_
          refine q_getf rfl rfl (by decide) rfl rfl ?_
          refine q_icge rfl rfl (fun c306 => absurd c306 (by decide)) (fun c306 => ?_)
          refine q_aload_n rfl rfl rfl ?_
          refine q_getf rfl rfl (by decide) rfl rfl ?_
          refine q_iconst rfl rfl ?_
          refine q_iload_n rfl rfl rfl ?_
          refine q_imul rfl rfl (q_tn (z := 0) rfl ?_)
          refine q_aload_n rfl rfl rfl ?_
          refine q_getf rfl rfl (by decide) rfl rfl ?_
          refine q_aload_n rfl rfl rfl ?_
          refine q_getf rfl rfl (by decide) rfl rfl ?_
          refine q_iload_n rfl rfl rfl ?_
          refine q_iadd rfl rfl (q_tn (z := 0) rfl ?_)
          refine q_iald rfl rfl (by decide) (FW_47 S hW) (by decide) (q_tn (z := 0) rfl ?_)
          refine q_ifne rfl rfl (fun c307 => ?_) (fun c307 => absurd (by decide) c307)
          refine q_bipush rfl rfl ?_
          refine q_goto rfl ?_
          refine q_iast rfl rfl (by decide) rfl (by decide) ?_
          refine q_icc1 (z := 1) rfl rfl rfl rfl rfl ?_
          refine q_goto rfl ?_
          refine q_iload_n rfl rfl rfl ?_
          refine q_aload_n rfl rfl rfl ?_
          refine q_getf rfl rfl (by decide) rfl rfl ?_
          refine q_icge rfl rfl (fun c308 => ?_) (fun c308 => absurd (by decide) c308)
          refine q_iconst rfl rfl ?_
          refine q_ist1n rfl rfl rfl rfl ?_
          refine q_iload_n rfl rfl rfl ?_
          refine q_iconst rfl rfl ?_
          refine q_icge rfl rfl (fun c309 => absurd c309 (by decide)) (fun c309 => ?_)
          refine q_aload_n rfl rfl rfl ?_
          refine q_getf rfl rfl (by decide) rfl rfl ?_
          refine q_bipush rfl rfl ?_
          refine q_iload_n rfl rfl rfl ?_
          refine q_iadd rfl rfl (q_tn (z := 12) rfl ?_)
          refine q_aload_n rfl rfl rfl ?_
          refine q_getf rfl rfl (by decide) rfl rfl ?_
          refine q_iload_n rfl rfl rfl ?_
          refine q_iald rfl rfl (by decide) (FW_51 S hW) (by decide) (q_tn (z := 0) rfl ?_)
          refine q_iast rfl rfl (by decide) rfl (by decide) ?_
          refine q_icc1 (z := 1) rfl rfl rfl rfl rfl ?_
          refine q_goto rfl ?_
          refine q_iload_n rfl rfl rfl ?_
          refine q_iconst rfl rfl ?_
          refine q_icge rfl rfl (fun c310 => absurd c310 (by decide)) (fun c310 => ?_)
          refine q_aload_n rfl rfl rfl ?_
          refine q_getf rfl rfl (by decide) rfl rfl ?_
          refine q_bipush rfl rfl ?_
          refine q_iload_n rfl rfl rfl ?_
          refine q_iadd rfl rfl (q_tn (z := 13) rfl ?_)
          refine q_aload_n rfl rfl rfl ?_
          refine q_getf rfl rfl (by decide) rfl rfl ?_
          refine q_iload_n rfl rfl rfl ?_
          refine q_iald rfl rfl (by decide) (FW_51 S hW) (by decide) (q_tn (z := 0) rfl ?_)
          refine q_iast rfl rfl (by decide) rfl (by decide) ?_
          refine q_icc1 (z := 2) rfl rfl rfl rfl rfl ?_
          refine q_goto rfl ?_
          refine q_iload_n rfl rfl rfl ?_
          refine q_iconst rfl rfl ?_
          refine q_icge rfl rfl (fun c311 => absurd c311 (by decide)) (fun c311 => ?_)
          refine q_aload_n rfl rfl rfl ?_
          refine q_getf rfl rfl (by decide) rfl rfl ?_
          refine q_bipush rfl rfl ?_
          refine q_iload_n rfl rfl rfl ?_
          refine q_iadd rfl rfl (q_tn (z := 14) rfl ?_)
          refine q_aload_n rfl rfl rfl ?_
          refine q_getf rfl rfl (by decide) rfl rfl ?_
          refine q_iload_n rfl rfl rfl ?_
          refine q_iald rfl rfl (by decide) (FW_51 S hW) (by decide) (q_tn (z := 0) rfl ?_)
          refine q_iast rfl rfl (by decide) rfl (by decide) ?_
          refine q_icc1 (z := 3) rfl rfl rfl rfl rfl ?_
          refine q_goto rfl ?_
          refine q_iload_n rfl rfl rfl ?_
          refine q_iconst rfl rfl ?_
          refine q_icge rfl rfl (fun c312 => absurd c312 (by decide)) (fun c312 => ?_)
          refine q_aload_n rfl rfl rfl ?_
          refine q_getf rfl rfl (by decide) rfl rfl ?_
          refine q_bipush rfl rfl ?_
          refine q_iload_n rfl rfl rfl ?_
          refine q_iadd rfl rfl (q_tn (z := 15) rfl ?_)
          refine q_aload_n rfl rfl rfl ?_
          refine q_getf rfl rfl (by decide) rfl rfl ?_
          refine q_iload_n rfl rfl rfl ?_
          refine q_iald rfl rfl (by decide) (FW_51 S hW) (by decide) (q_tn (z := 0) rfl ?_)
          refine q_iast rfl rfl (by decide) rfl (by decide) ?_
          refine q_icc1 (z := 4) rfl rfl rfl rfl rfl ?_
          refine q_goto rfl ?_
          refine q_iload_n rfl rfl rfl ?_
          refine q_iconst rfl rfl ?_
          refine q_icge rfl rfl (fun c313 => ?_) (fun c313 => absurd (by decide) c313)
          refine q_ret rfl rfl ?_
          refine ⟨rfl, ?_⟩
          refine q_iconst rfl rfl ?_
          refine q_ist3n rfl rfl rfl rfl ?_
          refine q_iload_n rfl rfl rfl ?_
          refine q_bipush rfl rfl ?_
          refine q_icge rfl rfl (fun c314 => absurd c314 (by decide)) (fun c314 => ?_)
          refine q_aload_n rfl rfl rfl ?_
          refine q_getf rfl rfl (by decide) rfl rfl ?_
          refine q_iload_n rfl rfl rfl ?_
          refine q_aload_n rfl rfl rfl ?_
          refine q_getf rfl rfl (by decide) rfl rfl ?_
          refine q_iload_n rfl rfl rfl ?_
          refine q_iald rfl rfl (by decide) rfl (by decide) (q_tn (z := 10) rfl ?_)
          refine q_iast rfl rfl (by decide) (FW_53 S hW) (by decide) ?_
          refine q_icc3 (z := 1) rfl rfl rfl rfl rfl ?_
          refine q_goto rfl ?_
          refine q_iload_n rfl rfl rfl ?_
          refine q_bipush rfl rfl ?_
          refine q_icge rfl rfl (fun c315 => absurd c315 (by decide)) (fun c315 => ?_)
          refine q_aload_n rfl rfl rfl ?_
          refine q_getf rfl rfl (by decide) rfl rfl ?_
          refine q_iload_n rfl rfl rfl ?_
          refine q_aload_n rfl rfl rfl ?_
          refine q_getf rfl rfl (by decide) rfl rfl ?_
          refine q_iload_n rfl rfl rfl ?_
          refine q_iald rfl rfl (by decide) rfl (by decide) (q_tn (z := 0) rfl ?_)
          refine q_iast rfl rfl (by decide) rfl (by decide) ?_
          refine q_icc3 (z := 2) rfl rfl rfl rfl rfl ?_
          refine q_goto rfl ?_
          refine q_iload_n rfl rfl rfl ?_
          refine q_bipush rfl rfl ?_
          refine q_icge rfl rfl (fun c316 => absurd c316 (by decide)) (fun c316 => ?_)
          refine q_aload_n rfl rfl rfl ?_
          refine q_getf rfl rfl (by decide) rfl rfl ?_
          refine q_iload_n rfl rfl rfl ?_
          refine q_aload_n rfl rfl rfl ?_
          refine q_getf rfl rfl (by decide) rfl rfl ?_
          refine q_iload_n rfl rfl rfl ?_
          refine q_iald rfl rfl (by decide) rfl (by decide) (q_tn (z := 0) rfl ?_)
          refine q_iast rfl rfl (by decide) rfl (by decide) ?_
          refine q_icc3 (z := 3) rfl rfl rfl rfl rfl ?_
          refine q_goto rfl ?_
          refine q_iload_n rfl rfl rfl ?_
          refine q_bipush rfl rfl ?_
          refine q_icge rfl rfl (fun c317 => absurd c317 (by decide)) (fun c317 => ?_)
          refine q_aload_n rfl rfl rfl ?_
          refine q_getf rfl rfl (by decide) rfl rfl ?_
          refine q_iload_n rfl rfl rfl ?_
          refine q_aload_n rfl rfl rfl ?_
          refine q_getf rfl rfl (by decide) rfl rfl ?_
          refine q_iload_n rfl rfl rfl ?_
          refine q_iald rfl rfl (by decide) rfl (by decide) (q_tn (z := 0) rfl ?_)
          refine q_iast rfl rfl (by decide) rfl (by decide) ?_
          refine q_icc3 (z := 4) rfl rfl rfl rfl rfl ?_
          refine q_goto rfl ?_
          refine q_iload_n rfl rfl rfl ?_
          refine q_bipush rfl rfl ?_
          refine q_icge rfl rfl (fun c318 => absurd c318 (by decide)) (fun c318 => ?_)
          refine q_aload_n rfl rfl rfl ?_
          refine q_getf rfl rfl (by decide) rfl rfl ?_
          refine q_iload_n rfl rfl rfl ?_
          refine q_aload_n rfl rfl rfl ?_
          refine q_getf rfl rfl (by decide) rfl rfl ?_
          refine q_iload_n rfl rfl rfl ?_
          refine q_iald rfl rfl (by decide) rfl (by decide) (q_tn (z := 0) rfl ?_)
          refine q_iast rfl rfl (by decide) rfl (by decide) ?_
          refine q_icc3 (z := 5) rfl rfl rfl rfl rfl ?_
          refine q_goto rfl ?_
          refine q_iload_n rfl rfl rfl ?_
          refine q_bipush rfl rfl ?_
          refine q_icge rfl rfl (fun c319 => absurd c319 (by decide)) (fun c319 => ?_)
          refine q_aload_n rfl rfl rfl ?_
          refine q_getf rfl rfl (by decide) rfl rfl ?_
          refine q_iload_n rfl rfl rfl ?_
          refine q_aload_n rfl rfl rfl ?_
          refine q_getf rfl rfl (by decide) rfl rfl ?_
          refine q_iload_n rfl rfl rfl ?_
          refine q_iald rfl rfl (by decide) rfl (by decide) (q_tn (z := 0) rfl ?_)
          refine q_iast rfl rfl (by decide) rfl (by decide) ?_
          refine q_icc3 (z := 6) rfl rfl rfl rfl rfl ?_
          refine q_goto rfl ?_
          refine q_iload_n rfl rfl rfl ?_
          refine q_bipush rfl rfl ?_
          refine q_icge rfl rfl (fun c320 => absurd c320 (by decide)) (fun c320 => ?_)
          refine q_aload_n rfl rfl rfl ?_
          refine q_getf rfl rfl (by decide) rfl rfl ?_
          refine q_iload_n rfl rfl rfl ?_
          refine q_aload_n rfl rfl rfl ?_
          refine q_getf rfl rfl (by decide) rfl rfl ?_
          refine q_iload_n rfl rfl rfl ?_
          refine q_iald rfl rfl (by decide) rfl (by decide) (q_tn (z := 0) rfl ?_)
          refine q_iast rfl rfl (by decide) rfl (by decide) ?_
          refine q_icc3 (z := 7) rfl rfl rfl rfl rfl ?_
          refine q_goto rfl ?_
          refine q_iload_n rfl rfl rfl ?_
          refine q_bipush rfl rfl ?_
          refine q_icge rfl rfl (fun c321 => absurd c321 (by decide)) (fun c321 => ?_)
          refine q_aload_n rfl rfl rfl ?_
          refine q_getf rfl rfl (by decide) rfl rfl ?_
          refine q_iload_n rfl rfl rfl ?_
          refine q_aload_n rfl rfl rfl ?_
          refine q_getf rfl rfl (by decide) rfl rfl ?_
          refine q_iload_n rfl rfl rfl ?_
          refine q_iald rfl rfl (by decide) rfl (by decide) (q_tn (z := 0) rfl ?_)
          refine q_iast rfl rfl (by decide) rfl (by decide) ?_
          refine q_icc3 (z := 8) rfl rfl rfl rfl rfl ?_
          refine q_goto rfl ?_
          refine q_iload_n rfl rfl rfl ?_
          refine q_bipush rfl rfl ?_
          refine q_icge rfl rfl (fun c322 => absurd c322 (by decide)) (fun c322 => ?_)
          refine q_aload_n rfl rfl rfl ?_
          refine q_getf rfl rfl (by decide) rfl rfl ?_
          refine q_iload_n rfl rfl rfl ?_
          refine q_aload_n rfl rfl rfl ?_
          refine q_getf rfl rfl (by decide) rfl rfl ?_
          refine q_iload_n rfl rfl rfl ?_
          refine q_iald rfl rfl (by decide) rfl (by decide) (q_tn (z := 0) rfl ?_)
          refine q_iast rfl rfl (by decide) rfl (by decide) ?_
          refine q_icc3 (z := 9) rfl rfl rfl rfl rfl ?_
          refine q_goto rfl ?_
          refine q_iload_n rfl rfl rfl ?_
          refine q_bipush rfl rfl ?_
          refine q_icge rfl rfl (fun c323 => absurd c323 (by decide)) (fun c323 => ?_)
          refine q_aload_n rfl rfl rfl ?_
          refine q_getf rfl rfl (by decide) rfl rfl ?_
          refine q_iload_n rfl rfl rfl ?_
          refine q_aload_n rfl rfl rfl ?_
          refine q_getf rfl rfl (by decide) rfl rfl ?_
          refine q_iload_n rfl rfl rfl ?_
          refine q_iald rfl rfl (by decide) rfl (by decide) (q_tn (z := 0) rfl ?_)
          refine q_iast rfl rfl (by decide) rfl (by decide) ?_
          refine q_icc3 (z := 10) rfl rfl rfl rfl rfl ?_
          refine q_goto rfl ?_
          refine q_iload_n rfl rfl rfl ?_
          refine q_bipush rfl rfl ?_
          refine q_icge rfl rfl (fun c324 => absurd c324 (by decide)) (fun c324 => ?_)
          refine q_aload_n rfl rfl rfl ?_
          refine q_getf rfl rfl (by decide) rfl rfl ?_
          refine q_iload_n rfl rfl rfl ?_
          refine q_aload_n rfl rfl rfl ?_
          refine q_getf rfl rfl (by decide) rfl rfl ?_
          refine q_iload_n rfl rfl rfl ?_
          refine q_iald rfl rfl (by decide) rfl (by decide) (q_tn (z := 0) rfl ?_)
          refine q_iast rfl rfl (by decide) rfl (by decide) ?_
          refine q_icc3 (z := 11) rfl rfl rfl rfl rfl ?_
          refine q_goto rfl ?_
          refine q_iload_n rfl rfl rfl ?_
          refine q_bipush rfl rfl ?_
          refine q_icge rfl rfl (fun c325 => absurd c325 (by decide)) (fun c325 => ?_)
          refine q_aload_n rfl rfl rfl ?_
          refine q_getf rfl rfl (by decide) rfl rfl ?_
          refine q_iload_n rfl rfl rfl ?_
          refine q_aload_n rfl rfl rfl ?_
          refine q_getf rfl rfl (by decide) rfl rfl ?_
          refine q_iload_n rfl rfl rfl ?_
          refine q_iald rfl rfl (by decide) rfl (by decide) (q_tn (z := 0) rfl ?_)
          refine q_iast rfl rfl (by decide) rfl (by decide) ?_
          refine q_icc3 (z := 12) rfl rfl rfl rfl rfl ?_
          refine q_goto rfl ?_
          refine q_iload_n rfl rfl rfl ?_
          refine q_bipush rfl rfl ?_
          refine q_icge rfl rfl (fun c326 => absurd c326 (by decide)) (fun c326 => ?_)
          refine q_aload_n rfl rfl rfl ?_
          refine q_getf rfl rfl (by decide) rfl rfl ?_
          refine q_iload_n rfl rfl rfl ?_
          refine q_aload_n rfl rfl rfl ?_
          refine q_getf rfl rfl (by decide) rfl rfl ?_
          refine q_iload_n rfl rfl rfl ?_
          refine q_iald rfl rfl (by decide) rfl (by decide) (q_tn (z := 0) rfl ?_)
          refine q_iast rfl rfl (by decide) rfl (by decide) ?_
          refine q_icc3 (z := 13) rfl rfl rfl rfl rfl ?_
          refine q_goto rfl ?_
          refine q_iload_n rfl rfl rfl ?_
          refine q_bipush rfl rfl ?_
          refine q_icge rfl rfl (fun c327 => absurd c327 (by decide)) (fun c327 => ?_)
          refine q_aload_n rfl rfl rfl ?_
          refine q_getf rfl rfl (by decide) rfl rfl ?_
          refine q_iload_n rfl rfl rfl ?_
          refine q_aload_n rfl rfl rfl ?_
          refine q_getf rfl rfl (by decide) rfl rfl ?_
          refine q_iload_n rfl rfl rfl ?_
          refine q_iald rfl rfl (by decide) rfl (by decide) (q_tn (z := 0) rfl ?_)
          refine q_iast rfl rfl (by decide) rfl (by decide) ?_
          refine q_icc3 (z := 14) rfl rfl rfl rfl rfl ?_
          refine q_goto rfl ?_
          refine q_iload_n rfl rfl rfl ?_
          refine q_bipush rfl rfl ?_
          refine q_icge rfl rfl (fun c328 => absurd c328 (by decide)) (fun c328 => ?_)
          refine q_aload_n rfl rfl rfl ?_
          refine q_getf rfl rfl (by decide) rfl rfl ?_
          refine q_iload_n rfl rfl rfl ?_
          refine q_aload_n rfl rfl rfl ?_
          refine q_getf rfl rfl (by decide) rfl rfl ?_
          refine q_iload_n rfl rfl rfl ?_
          refine q_iald rfl rfl (by decide) rfl (by decide) (q_tn (z := 0) rfl ?_)
          refine q_iast rfl rfl (by decide) rfl (by decide) ?_
          refine q_icc3 (z := 15) rfl rfl rfl rfl rfl ?_
          refine q_goto rfl ?_
          refine q_iload_n rfl rfl rfl ?_
          refine q_bipush rfl rfl ?_
          refine q_icge rfl rfl (fun c329 => absurd c329 (by decide)) (fun c329 => ?_)
          refine q_aload_n rfl rfl rfl ?_
          refine q_getf rfl rfl (by decide) rfl rfl ?_
          refine q_iload_n rfl rfl rfl ?_
          refine q_aload_n rfl rfl rfl ?_
          refine q_getf rfl rfl (by decide) rfl rfl ?_
          refine q_iload_n rfl rfl rfl ?_
          refine q_iald rfl rfl (by decide) rfl (by decide) (q_tn (z := 0) rfl ?_)
          refine q_iast rfl rfl (by decide) rfl (by decide) ?_
          refine q_icc3 (z := 16) rfl rfl rfl rfl rfl ?_
          refine q_goto rfl ?_
          refine q_iload_n rfl rfl rfl ?_
          refine q_bipush rfl rfl ?_
          refine q_icge rfl rfl (fun c330 => absurd c330 (by decide)) (fun c330 => ?_)
          refine q_aload_n rfl rfl rfl ?_
          refine q_getf rfl rfl (by decide) rfl rfl ?_
          refine q_iload_n rfl rfl rfl ?_
          refine q_aload_n rfl rfl rfl ?_
          refine q_getf rfl rfl (by decide) rfl rfl ?_
          refine q_iload_n rfl rfl rfl ?_
          refine q_iald rfl rfl (by decide) rfl (by decide) (q_tn (z := 0) rfl ?_)
          refine q_iast rfl rfl (by decide) rfl (by decide) ?_
          refine q_icc3 (z := 17) rfl rfl rfl rfl rfl ?_
          refine q_goto rfl ?_
          refine q_iload_n rfl rfl rfl ?_
          refine q_bipush rfl rfl ?_
          refine q_icge rfl rfl (fun c331 => absurd c331 (by decide)) (fun c331 => ?_)
          refine q_aload_n rfl rfl rfl ?_
          refine q_getf rfl rfl (by decide) rfl rfl ?_
          refine q_iload_n rfl rfl rfl ?_
          refine q_aload_n rfl rfl rfl ?_
          refine q_getf rfl rfl (by decide) rfl rfl ?_
          refine q_iload_n rfl rfl rfl ?_
          refine q_iald rfl rfl (by decide) rfl (by decide) (q_tn (z := 0) rfl ?_)
          refine q_iast rfl rfl (by decide) rfl (by decide) ?_
          refine q_icc3 (z := 18) rfl rfl rfl rfl rfl ?_
          refine q_goto rfl ?_
          refine q_iload_n rfl rfl rfl ?_
          refine q_bipush rfl rfl ?_
          refine q_icge rfl rfl (fun c332 => absurd c332 (by decide)) (fun c332 => ?_)
          refine q_aload_n rfl rfl rfl ?_
          refine q_getf rfl rfl (by decide) rfl rfl ?_
          refine q_iload_n rfl rfl rfl ?_
          refine q_aload_n rfl rfl rfl ?_
          refine q_getf rfl rfl (by decide) rfl rfl ?_
          refine q_iload_n rfl rfl rfl ?_
          refine q_iald rfl rfl (by decide) rfl (by decide) (q_tn (z := 0) rfl ?_)
          refine q_iast rfl rfl (by decide) rfl (by decide) ?_
          refine q_icc3 (z := 19) rfl rfl rfl rfl rfl ?_
          refine q_goto rfl ?_
          refine q_iload_n rfl rfl rfl ?_
          refine q_bipush rfl rfl ?_
          refine q_icge rfl rfl (fun c333 => absurd c333 (by decide)) (fun c333 => ?_)
          refine q_aload_n rfl rfl rfl ?_
          refine q_getf rfl rfl (by decide) rfl rfl ?_
          refine q_iload_n rfl rfl rfl ?_
          refine q_aload_n rfl rfl rfl ?_
          refine q_getf rfl rfl (by decide) rfl rfl ?_
          refine q_iload_n rfl rfl rfl ?_
          refine q_iald rfl rfl (by decide) rfl (by decide) (q_tn (z := 0) rfl ?_)
          refine q_iast rfl rfl (by decide) rfl (by decide) ?_
          refine q_icc3 (z := 20) rfl rfl rfl rfl rfl ?_
          refine q_goto rfl ?_
          refine q_iload_n rfl rfl rfl ?_
          refine q_bipush rfl rfl ?_
          refine q_icge rfl rfl (fun c334 => ?_) (fun c334 => absurd (by decide) c334)
          refine q_aload_n rfl rfl rfl ?_
          refine q_iload_n rfl rfl rfl ?_
          refine q_iconst rfl rfl ?_
          refine q_iconst rfl rfl ?_
          refine q_nV3 rfl rfl (Or.inl rfl) rfl rfl rfl (by decide) rfl ⟨rfl, rfl⟩ rfl ?_
          change PQ _ _ _ mm_X12_put 0 [.ref 46, .int 1, .int (-1), .int (-1), pm_un, pm_un, pm_un] [] _ _ 0 0 _
          refine q_aload_n rfl rfl rfl ?_
          refine q_getf rfl rfl (by decide) rfl rfl ?_
          refine q_iload_n rfl rfl rfl ?_
          refine q_iald rfl rfl (by decide) rfl (by decide) (q_tn (z := 0) rfl ?_)
          refine q_ist4 rfl rfl rfl rfl ?_
          refine q_iload rfl rfl rfl ?_
          refine q_sipush rfl rfl ?_
          refine q_icne rfl rfl (fun c335 => absurd c335 (by decide)) (fun c335 => ?_)
          refine q_sipush rfl rfl ?_
          refine q_iload_n rfl rfl rfl ?_
          refine q_imul rfl rfl (q_tn (z := 2000) rfl ?_)
          refine q_iload rfl rfl rfl ?_
          refine q_iadd rfl rfl (q_tn (z := 2000) rfl ?_)
          refine q_ist5 rfl rfl rfl rfl ?_
          refine q_iconst rfl rfl ?_
          refine q_ist6 rfl rfl rfl rfl ?_
          refine q_iload rfl rfl rfl ?_
          refine q_bipush rfl rfl ?_
          refine q_icge rfl rfl (fun c336 => absurd c336 (by decide)) (fun c336 => ?_)
          refine q_aload_n rfl rfl rfl ?_
          refine q_getf rfl rfl (by decide) rfl rfl ?_
          refine q_bipush rfl rfl ?_
          refine q_iload rfl rfl rfl ?_
          refine q_imul rfl rfl (q_tn (z := 40000) rfl ?_)
          refine q_iload rfl rfl rfl ?_
          refine q_iadd rfl rfl (q_tn (z := 40000) rfl ?_)
          refine q_aload_n rfl rfl rfl ?_
          refine q_getf rfl rfl (by decide) rfl rfl ?_
          refine q_iload rfl rfl rfl ?_
          refine q_iald rfl rfl (by decide) rfl (by decide) (q_tn (z := 10) rfl ?_)
          refine q_iast rfl rfl (by decide) (FW_55 S hW) (by decide) ?_
          refine q_icc6 (z := 1) rfl rfl rfl rfl rfl ?_
          refine q_goto rfl ?_
          refine q_iload rfl rfl rfl ?_
          refine q_bipush rfl rfl ?_
          refine q_icge rfl rfl (fun c337 => absurd c337 (by decide)) (fun c337 => ?_)
          refine q_aload_n rfl rfl rfl ?_
          refine q_getf rfl rfl (by decide) rfl rfl ?_
          refine q_bipush rfl rfl ?_
          refine q_iload rfl rfl rfl ?_
          refine q_imul rfl rfl (q_tn (z := 40000) rfl ?_)
          refine q_iload rfl rfl rfl ?_
          refine q_iadd rfl rfl (q_tn (z := 40001) rfl ?_)
          refine q_aload_n rfl rfl rfl ?_
          refine q_getf rfl rfl (by decide) rfl rfl ?_
          refine q_iload rfl rfl rfl ?_
          refine q_iald rfl rfl (by decide) rfl (by decide) (q_tn (z := 0) rfl ?_)
          refine q_iast rfl rfl (by decide) rfl (by decide) ?_
          refine q_icc6 (z := 2) rfl rfl rfl rfl rfl ?_
          refine q_goto rfl ?_
          refine q_iload rfl rfl rfl ?_
          refine q_bipush rfl rfl ?_
          refine q_icge rfl rfl (fun c338 => absurd c338 (by decide)) (fun c338 => ?_)
          refine q_aload_n rfl rfl rfl ?_
          refine q_getf rfl rfl (by decide) rfl rfl ?_
          refine q_bipush rfl rfl ?_
          refine q_iload rfl rfl rfl ?_
          refine q_imul rfl rfl (q_tn (z := 40000) rfl ?_)
          refine q_iload rfl rfl rfl ?_
          refine q_iadd rfl rfl (q_tn (z := 40002) rfl ?_)
          refine q_aload_n rfl rfl rfl ?_
          refine q_getf rfl rfl (by decide) rfl rfl ?_
          refine q_iload rfl rfl rfl ?_
          refine q_iald rfl rfl (by decide) rfl (by decide) (q_tn (z := 0) rfl ?_)
          refine q_iast rfl rfl (by decide) rfl (by decide) ?_
          refine q_icc6 (z := 3) rfl rfl rfl rfl rfl ?_
          refine q_goto rfl ?_
          refine q_iload rfl rfl rfl ?_
          refine q_bipush rfl rfl ?_
          refine q_icge rfl rfl (fun c339 => absurd c339 (by decide)) (fun c339 => ?_)
          refine q_aload_n rfl rfl rfl ?_
          refine q_getf rfl rfl (by decide) rfl rfl ?_
          refine q_bipush rfl rfl ?_
          refine q_iload rfl rfl rfl ?_
          refine q_imul rfl rfl (q_tn (z := 40000) rfl ?_)
          refine q_iload rfl rfl rfl ?_
          refine q_iadd rfl rfl (q_tn (z := 40003) rfl ?_)
          refine q_aload_n rfl rfl rfl ?_
          refine q_getf rfl rfl (by decide) rfl rfl ?_
          refine q_iload rfl rfl rfl ?_
          refine q_iald rfl rfl (by decide) rfl (by decide) (q_tn (z := 0) rfl ?_)
          refine q_iast rfl rfl (by decide) rfl (by decide) ?_
          refine q_icc6 (z := 4) rfl rfl rfl rfl rfl ?_
          refine q_goto rfl ?_
          refine q_iload rfl rfl rfl ?_
          refine q_bipush rfl rfl ?_
          refine q_icge rfl rfl (fun c340 => absurd c340 (by decide)) (fun c340 => ?_)
          refine q_aload_n rfl rfl rfl ?_
          refine q_getf rfl rfl (by decide) rfl rfl ?_
          refine q_bipush rfl rfl ?_
          refine q_iload rfl rfl rfl ?_
          refine q_imul rfl rfl (q_tn (z := 40000) rfl ?_)
          refine q_iload rfl rfl rfl ?_
          refine q_iadd rfl rfl (q_tn (z := 40004) rfl ?_)
          refine q_aload_n rfl rfl rfl ?_
          refine q_getf rfl rfl (by decide) rfl rfl ?_
          refine q_iload rfl rfl rfl ?_
          refine q_iald rfl rfl (by decide) rfl (by decide) (q_tn (z := 0) rfl ?_)
          refine q_iast rfl rfl (by decide) rfl (by decide) ?_
          refine q_icc6 (z := 5) rfl rfl rfl rfl rfl ?_
          refine q_goto rfl ?_
          refine q_iload rfl rfl rfl ?_
          refine q_bipush rfl rfl ?_
          refine q_icge rfl rfl (fun c341 => absurd c341 (by decide)) (fun c341 => ?_)
          refine q_aload_n rfl rfl rfl ?_
          refine q_getf rfl rfl (by decide) rfl rfl ?_
          refine q_bipush rfl rfl ?_
          refine q_iload rfl rfl rfl ?_
          refine q_imul rfl rfl (q_tn (z := 40000) rfl ?_)
          refine q_iload rfl rfl rfl ?_
          refine q_iadd rfl rfl (q_tn (z := 40005) rfl ?_)
          refine q_aload_n rfl rfl rfl ?_
          refine q_getf rfl rfl (by decide) rfl rfl ?_
          refine q_iload rfl rfl rfl ?_
          refine q_iald rfl rfl (by decide) rfl (by decide) (q_tn (z := 0) rfl ?_)
          refine q_iast rfl rfl (by decide) rfl (by decide) ?_
          refine q_icc6 (z := 6) rfl rfl rfl rfl rfl ?_
          refine q_goto rfl ?_
          refine q_iload rfl rfl rfl ?_
          refine q_bipush rfl rfl ?_
          refine q_icge rfl rfl (fun c342 => absurd c342 (by decide)) (fun c342 => ?_)
          refine q_aload_n rfl rfl rfl ?_
          refine q_getf rfl rfl (by decide) rfl rfl ?_
          refine q_bipush rfl rfl ?_
          refine q_iload rfl rfl rfl ?_
          refine q_imul rfl rfl (q_tn (z := 40000) rfl ?_)
          refine q_iload rfl rfl rfl ?_
          refine q_iadd rfl rfl (q_tn (z := 40006) rfl ?_)
          refine q_aload_n rfl rfl rfl ?_
          refine q_getf rfl rfl (by decide) rfl rfl ?_
          refine q_iload rfl rfl rfl ?_
          refine q_iald rfl rfl (by decide) rfl (by decide) (q_tn (z := 0) rfl ?_)
          refine q_iast rfl rfl (by decide) rfl (by decide) ?_
          refine q_icc6 (z := 7) rfl rfl rfl rfl rfl ?_
          refine q_goto rfl ?_
          refine q_iload rfl rfl rfl ?_
          refine q_bipush rfl rfl ?_
          refine q_icge rfl rfl (fun c343 => absurd c343 (by decide)) (fun c343 => ?_)
          refine q_aload_n rfl rfl rfl ?_
          refine q_getf rfl rfl (by decide) rfl rfl ?_
          refine q_bipush rfl rfl ?_
          refine q_iload rfl rfl rfl ?_
          refine q_imul rfl rfl (q_tn (z := 40000) rfl ?_)
          refine q_iload rfl rfl rfl ?_
          refine q_iadd rfl rfl (q_tn (z := 40007) rfl ?_)
          refine q_aload_n rfl rfl rfl ?_
          refine q_getf rfl rfl (by decide) rfl rfl ?_
          refine q_iload rfl rfl rfl ?_
          refine q_iald rfl rfl (by decide) rfl (by decide) (q_tn (z := 0) rfl ?_)
          refine q_iast rfl rfl (by decide) rfl (by decide) ?_
          refine q_icc6 (z := 8) rfl rfl rfl rfl rfl ?_
          refine q_goto rfl ?_
          refine q_iload rfl rfl rfl ?_
          refine q_bipush rfl rfl ?_
          refine q_icge rfl rfl (fun c344 => absurd c344 (by decide)) (fun c344 => ?_)
          refine q_aload_n rfl rfl rfl ?_
          refine q_getf rfl rfl (by decide) rfl rfl ?_
          refine q_bipush rfl rfl ?_
          refine q_iload rfl rfl rfl ?_
          refine q_imul rfl rfl (q_tn (z := 40000) rfl ?_)
          refine q_iload rfl rfl rfl ?_
          refine q_iadd rfl rfl (q_tn (z := 40008) rfl ?_)
          refine q_aload_n rfl rfl rfl ?_
          refine q_getf rfl rfl (by decide) rfl rfl ?_
          refine q_iload rfl rfl rfl ?_
          refine q_iald rfl rfl (by decide) rfl (by decide) (q_tn (z := 0) rfl ?_)
          refine q_iast rfl rfl (by decide) rfl (by decide) ?_
          refine q_icc6 (z := 9) rfl rfl rfl rfl rfl ?_
          refine q_goto rfl ?_
          refine q_iload rfl rfl rfl ?_
          refine q_bipush rfl rfl ?_
          refine q_icge rfl rfl (fun c345 => absurd c345 (by decide)) (fun c345 => ?_)
          refine q_aload_n rfl rfl rfl ?_
          refine q_getf rfl rfl (by decide) rfl rfl ?_
          refine q_bipush rfl rfl ?_
          as_aux_lemma =>
            refine q_iload rfl rfl rfl ?_
            refine q_imul rfl rfl (q_tn (z := 40000) rfl ?_)
            refine q_iload rfl rfl rfl ?_
            refine q_iadd rfl rfl (q_tn (z := 40009) rfl ?_)
            refine q_aload_n rfl rfl rfl ?_
            refine q_getf rfl rfl (by decide) rfl rfl ?_
            refine q_iload rfl rfl rfl ?_
            refine q_iald rfl rfl (by decide) rfl (by decide) (q_tn (z := 0) rfl ?_)
            refine q_iast rfl rfl (by decide) rfl (by decide) ?_
            refine q_icc6 (z := 10) rfl rfl rfl rfl rfl ?_
            refine q_goto rfl ?_
            refine q_iload rfl rfl rfl ?_
            refine q_bipush rfl rfl ?_
            refine q_icge rfl rfl (fun c346 => absurd c346 (by decide)) (fun c346 => ?_)
            refine q_aload_n rfl rfl rfl ?_
            refine q_getf rfl rfl (by decide) rfl rfl ?_
            refine q_bipush rfl rfl ?_
            refine q_iload rfl rfl rfl ?_
            refine q_imul rfl rfl (q_tn (z := 40000) rfl ?_)
            refine q_iload rfl rfl rfl ?_
            refine q_iadd rfl rfl (q_tn (z := 40010) rfl ?_)
            refine q_aload_n rfl rfl rfl ?_
            refine q_getf rfl rfl (by decide) rfl rfl ?_
            refine q_iload rfl rfl rfl ?_
            refine q_iald rfl rfl (by decide) rfl (by decide) (q_tn (z := 0) rfl ?_)
            refine q_iast rfl rfl (by decide) rfl (by decide) ?_
            refine q_icc6 (z := 11) rfl rfl rfl rfl rfl ?_
            refine q_goto rfl ?_
            refine q_iload rfl rfl rfl ?_
            refine q_bipush rfl rfl ?_
            refine q_icge rfl rfl (fun c347 => absurd c347 (by decide)) (fun c347 => ?_)
            refine q_aload_n rfl rfl rfl ?_
            refine q_getf rfl rfl (by decide) rfl rfl ?_
            refine q_bipush rfl rfl ?_
            refine q_iload rfl rfl rfl ?_
            refine q_imul rfl rfl (q_tn (z := 40000) rfl ?_)
            refine q_iload rfl rfl rfl ?_
            refine q_iadd rfl rfl (q_tn (z := 40011) rfl ?_)
            refine q_aload_n rfl rfl rfl ?_
            refine q_getf rfl rfl (by decide) rfl rfl ?_
            refine q_iload rfl rfl rfl ?_
            refine q_iald rfl rfl (by decide) rfl (by decide) (q_tn (z := 0) rfl ?_)
            refine q_iast rfl rfl (by decide) rfl (by decide) ?_
            refine q_icc6 (z := 12) rfl rfl rfl rfl rfl ?_
            refine q_goto rfl ?_
            refine q_iload rfl rfl rfl ?_
            refine q_bipush rfl rfl ?_
            refine q_icge rfl rfl (fun c348 => absurd c348 (by decide)) (fun c348 => ?_)
            refine q_aload_n rfl rfl rfl ?_
            refine q_getf rfl rfl (by decide) rfl rfl ?_
            refine q_bipush rfl rfl ?_
            refine q_iload rfl rfl rfl ?_
            refine q_imul rfl rfl (q_tn (z := 40000) rfl ?_)
            refine q_iload rfl rfl rfl ?_
            refine q_iadd rfl rfl (q_tn (z := 40012) rfl ?_)
            refine q_aload_n rfl rfl rfl ?_
            refine q_getf rfl rfl (by decide) rfl rfl ?_
            refine q_iload rfl rfl rfl ?_
            refine q_iald rfl rfl (by decide) rfl (by decide) (q_tn (z := 0) rfl ?_)
            refine q_iast rfl rfl (by decide) rfl (by decide) ?_
            refine q_icc6 (z := 13) rfl rfl rfl rfl rfl ?_
            refine q_goto rfl ?_
            refine q_iload rfl rfl rfl ?_
            refine q_bipush rfl rfl ?_
            refine q_icge rfl rfl (fun c349 => absurd c349 (by decide)) (fun c349 => ?_)
            refine q_aload_n rfl rfl rfl ?_
            refine q_getf rfl rfl (by decide) rfl rfl ?_
            refine q_bipush rfl rfl ?_
            refine q_iload rfl rfl rfl ?_
            refine q_imul rfl rfl (q_tn (z := 40000) rfl ?_)
            refine q_iload rfl rfl rfl ?_
            refine q_iadd rfl rfl (q_tn (z := 40013) rfl ?_)
            refine q_aload_n rfl rfl rfl ?_
            refine q_getf rfl rfl (by decide) rfl rfl ?_
            refine q_iload rfl rfl rfl ?_
            refine q_iald rfl rfl (by decide) rfl (by decide) (q_tn (z := 0) rfl ?_)
            refine q_iast rfl rfl (by decide) rfl (by decide) ?_
            refine q_icc6 (z := 14) rfl rfl rfl rfl rfl ?_
            refine q_goto rfl ?_
            refine q_iload rfl rfl rfl ?_
            refine q_bipush rfl rfl ?_
            refine q_icge rfl rfl (fun c350 => absurd c350 (by decide)) (fun c350 => ?_)
            refine q_aload_n rfl rfl rfl ?_
            refine q_getf rfl rfl (by decide) rfl rfl ?_
            refine q_bipush rfl rfl ?_
            refine q_iload rfl rfl rfl ?_
            refine q_imul rfl rfl (q_tn (z := 40000) rfl ?_)
            refine q_iload rfl rfl rfl ?_
            refine q_iadd rfl rfl (q_tn (z := 40014) rfl ?_)
            refine q_aload_n rfl rfl rfl ?_
            refine q_getf rfl rfl (by decide) rfl rfl ?_
            refine q_iload rfl rfl rfl ?_
            refine q_iald rfl rfl (by decide) rfl (by decide) (q_tn (z := 0) rfl ?_)
            refine q_iast rfl rfl (by decide) rfl (by decide) ?_
            refine q_icc6 (z := 15) rfl rfl rfl rfl rfl ?_
            refine q_goto rfl ?_
            refine q_iload rfl rfl rfl ?_
            refine q_bipush rfl rfl ?_
            refine q_icge rfl rfl (fun c351 => absurd c351 (by decide)) (fun c351 => ?_)
            refine q_aload_n rfl rfl rfl ?_
            refine q_getf rfl rfl (by decide) rfl rfl ?_
            refine q_bipush rfl rfl ?_
            refine q_iload rfl rfl rfl ?_
            refine q_imul rfl rfl (q_tn (z := 40000) rfl ?_)
            refine q_iload rfl rfl rfl ?_
            refine q_iadd rfl rfl (q_tn (z := 40015) rfl ?_)
            refine q_aload_n rfl rfl rfl ?_
            refine q_getf rfl rfl (by decide) rfl rfl ?_
            refine q_iload rfl rfl rfl ?_
            refine q_iald rfl rfl (by decide) rfl (by decide) (q_tn (z := 0) rfl ?_)
            refine q_iast rfl rfl (by decide) rfl (by decide) ?_
            refine q_icc6 (z := 16) rfl rfl rfl rfl rfl ?_
            refine q_goto rfl ?_
            refine q_iload rfl rfl rfl ?_
            refine q_bipush rfl rfl ?_
            refine q_icge rfl rfl (fun c352 => absurd c352 (by decide)) (fun c352 => ?_)
            refine q_aload_n rfl rfl rfl ?_
            refine q_getf rfl rfl (by decide) rfl rfl ?_
            refine q_bipush rfl rfl ?_
            refine q_iload rfl rfl rfl ?_
            refine q_imul rfl rfl (q_tn (z := 40000) rfl ?_)
            refine q_iload rfl rfl rfl ?_
            refine q_iadd rfl rfl (q_tn (z := 40016) rfl ?_)
            refine q_aload_n rfl rfl rfl ?_
            refine q_getf rfl rfl (by decide) rfl rfl ?_
            refine q_iload rfl rfl rfl ?_
            refine q_iald rfl rfl (by decide) rfl (by decide) (q_tn (z := 0) rfl ?_)
            refine q_iast rfl rfl (by decide) rfl (by decide) ?_
            refine q_icc6 (z := 17) rfl rfl rfl rfl rfl ?_
            refine q_goto rfl ?_
            refine q_iload rfl rfl rfl ?_
            refine q_bipush rfl rfl ?_
            refine q_icge rfl rfl (fun c353 => absurd c353 (by decide)) (fun c353 => ?_)
            refine q_aload_n rfl rfl rfl ?_
            refine q_getf rfl rfl (by decide) rfl rfl ?_
            refine q_bipush rfl rfl ?_
            refine q_iload rfl rfl rfl ?_
            refine q_imul rfl rfl (q_tn (z := 40000) rfl ?_)
            refine q_iload rfl rfl rfl ?_
            refine q_iadd rfl rfl (q_tn (z := 40017) rfl ?_)
            refine q_aload_n rfl rfl rfl ?_
            refine q_getf rfl rfl (by decide) rfl rfl ?_
            refine q_iload rfl rfl rfl ?_
            refine q_iald rfl rfl (by decide) rfl (by decide) (q_tn (z := 0) rfl ?_)
            refine q_iast rfl rfl (by decide) rfl (by decide) ?_
            refine q_icc6 (z := 18) rfl rfl rfl rfl rfl ?_
            refine q_goto rfl ?_
            refine q_iload rfl rfl rfl ?_
            refine q_bipush rfl rfl ?_
            refine q_icge rfl rfl (fun c354 => absurd c354 (by decide)) (fun c354 => ?_)
            refine q_aload_n rfl rfl rfl ?_
            refine q_getf rfl rfl (by decide) rfl rfl ?_
            refine q_bipush rfl rfl ?_
            refine q_iload rfl rfl rfl ?_
            refine q_imul rfl rfl (q_tn (z := 40000) rfl ?_)
            refine q_iload rfl rfl rfl ?_
            refine q_iadd rfl rfl (q_tn (z := 40018) rfl ?_)
            refine q_aload_n rfl rfl rfl ?_
            refine q_getf rfl rfl (by decide) rfl rfl ?_
            refine q_iload rfl rfl rfl ?_
            refine q_iald rfl rfl (by decide) rfl (by decide) (q_tn (z := 0) rfl ?_)
            refine q_iast rfl rfl (by decide) rfl (by decide) ?_
            refine q_icc6 (z := 19) rfl rfl rfl rfl rfl ?_
            refine q_goto rfl ?_
            refine q_iload rfl rfl rfl ?_
            refine q_bipush rfl rfl ?_
            refine q_icge rfl rfl (fun c355 => absurd c355 (by decide)) (fun c355 => ?_)
            refine q_aload_n rfl rfl rfl ?_
            refine q_getf rfl rfl (by decide) rfl rfl ?_
            refine q_bipush rfl rfl ?_
            refine q_iload rfl rfl rfl ?_
            refine q_imul rfl rfl (q_tn (z := 40000) rfl ?_)
            refine q_iload rfl rfl rfl ?_
            refine q_iadd rfl rfl (q_tn (z := 40019) rfl ?_)
            refine q_aload_n rfl rfl rfl ?_
            refine q_getf rfl rfl (by decide) rfl rfl ?_
            refine q_iload rfl rfl rfl ?_
            refine q_iald rfl rfl (by decide) rfl (by decide) (q_tn (z := 0) rfl ?_)
            refine q_iast rfl rfl (by decide) rfl (by decide) ?_
            refine q_icc6 (z := 20) rfl rfl rfl rfl rfl ?_
            refine q_goto rfl ?_
            refine q_iload rfl rfl rfl ?_
            refine q_bipush rfl rfl ?_
            refine q_icge rfl rfl (fun c356 => ?_) (fun c356 => absurd (by decide) c356)
            refine q_aload_n rfl rfl rfl ?_
            refine q_getf rfl rfl (by decide) rfl rfl ?_
            refine q_iload rfl rfl rfl ?_
            refine q_iload_n rfl rfl rfl ?_
            refine q_iast rfl rfl (by decide) (FW_56 S hW) (by decide) ?_
            refine q_aload_n rfl rfl rfl ?_
            refine q_getf rfl rfl (by decide) rfl rfl ?_
            refine q_iload rfl rfl rfl ?_
            refine q_iload_n rfl rfl rfl ?_
            refine q_iast rfl rfl (by decide) (FW_57 S hW) (by decide) ?_
            refine q_aload_n rfl rfl rfl ?_
            refine q_iload_n rfl rfl rfl ?_
            refine q_nV1 rfl rfl (Or.inl rfl) rfl rfl rfl (by decide) rfl ⟨rfl, rfl⟩ rfl ?_
            change PQ _ _ _ mm_X12_rest 0 [.ref 46, .int 1, pm_un, pm_un] [] _ _ 0 0 _
            refine q_bipush rfl rfl ?_
            refine q_ist2n rfl rfl rfl rfl ?_
            refine q_iconst rfl rfl ?_
            refine q_ist3n rfl rfl rfl rfl ?_
            refine q_iload_n rfl rfl rfl ?_
            refine q_bipush rfl rfl ?_
            refine q_icge rfl rfl (fun c357 => absurd c357 (by decide)) (fun c357 => ?_)
            refine q_bipush rfl rfl ?_
            refine q_iload_n rfl rfl rfl ?_
            refine q_imul rfl rfl (q_tn (z := 527) rfl ?_)
            refine q_aload_n rfl rfl rfl ?_
            refine q_getf rfl rfl (by decide) rfl rfl ?_
            refine q_iload_n rfl rfl rfl ?_
            refine q_iald rfl rfl (by decide) rfl (by decide) (q_tn (z := 10) rfl ?_)
            refine q_iadd rfl rfl (q_tn (z := 537) rfl ?_)
            refine q_ist2n rfl rfl rfl rfl ?_
            refine q_icc3 (z := 1) rfl rfl rfl rfl rfl ?_
            refine q_goto rfl ?_
            refine q_iload_n rfl rfl rfl ?_
            refine q_bipush rfl rfl ?_
            refine q_icge rfl rfl (fun c358 => absurd c358 (by decide)) (fun c358 => ?_)
            refine q_bipush rfl rfl ?_
            refine q_iload_n rfl rfl rfl ?_
            refine q_imul rfl rfl (q_tn (z := 16647) rfl ?_)
            refine q_aload_n rfl rfl rfl ?_
            refine q_getf rfl rfl (by decide) rfl rfl ?_
            refine q_iload_n rfl rfl rfl ?_
            refine q_iald rfl rfl (by decide) rfl (by decide) (q_tn (z := 0) rfl ?_)
            refine q_iadd rfl rfl (q_tn (z := 16647) rfl ?_)
            refine q_ist2n rfl rfl rfl rfl ?_
            refine q_icc3 (z := 2) rfl rfl rfl rfl rfl ?_
            refine q_goto rfl ?_
            refine q_iload_n rfl rfl rfl ?_
            refine q_bipush rfl rfl ?_
            refine q_icge rfl rfl (fun c359 => absurd c359 (by decide)) (fun c359 => ?_)
            refine q_bipush rfl rfl ?_
            refine q_iload_n rfl rfl rfl ?_
            refine q_imul rfl rfl (q_tn (z := 516057) rfl ?_)
            refine q_aload_n rfl rfl rfl ?_
            refine q_getf rfl rfl (by decide) rfl rfl ?_
            refine q_iload_n rfl rfl rfl ?_
            refine q_iald rfl rfl (by decide) rfl (by decide) (q_tn (z := 0) rfl ?_)
            refine q_iadd rfl rfl (q_tn (z := 516057) rfl ?_)
            refine q_ist2n rfl rfl rfl rfl ?_
            refine q_icc3 (z := 3) rfl rfl rfl rfl rfl ?_
            refine q_goto rfl ?_
            refine q_iload_n rfl rfl rfl ?_
            refine q_bipush rfl rfl ?_
            refine q_icge rfl rfl (fun c360 => absurd c360 (by decide)) (fun c360 => ?_)
            refine q_bipush rfl rfl ?_
            refine q_iload_n rfl rfl rfl ?_
            refine q_imul rfl rfl (q_tn (z := 15997767) rfl ?_)
            refine q_aload_n rfl rfl rfl ?_
            refine q_getf rfl rfl (by decide) rfl rfl ?_
            refine q_iload_n rfl rfl rfl ?_
            refine q_iald rfl rfl (by decide) rfl (by decide) (q_tn (z := 0) rfl ?_)
            refine q_iadd rfl rfl (q_tn (z := 15997767) rfl ?_)
            refine q_ist2n rfl rfl rfl rfl ?_
            refine q_icc3 (z := 4) rfl rfl rfl rfl rfl ?_
            refine q_goto rfl ?_
            refine q_iload_n rfl rfl rfl ?_
            refine q_bipush rfl rfl ?_
            refine q_icge rfl rfl (fun c361 => absurd c361 (by decide)) (fun c361 => ?_)
            refine q_bipush rfl rfl ?_
            refine q_iload_n rfl rfl rfl ?_
            refine q_imul rfl rfl (q_tn (z := 495930777) rfl ?_)
            refine q_aload_n rfl rfl rfl ?_
            refine q_getf rfl rfl (by decide) rfl rfl ?_
            refine q_iload_n rfl rfl rfl ?_
            refine q_iald rfl rfl (by decide) rfl (by decide) (q_tn (z := 0) rfl ?_)
            refine q_iadd rfl rfl (q_tn (z := 495930777) rfl ?_)
            refine q_ist2n rfl rfl rfl rfl ?_
            refine q_icc3 (z := 5) rfl rfl rfl rfl rfl ?_
            refine q_goto rfl ?_
            refine q_iload_n rfl rfl rfl ?_
            refine q_bipush rfl rfl ?_
            refine q_icge rfl rfl (fun c362 => absurd c362 (by decide)) (fun c362 => ?_)
            refine q_bipush rfl rfl ?_
            refine q_iload_n rfl rfl rfl ?_
            refine q_imul rfl rfl (q_tn (z := (-1806015097)) rfl ?_)
            refine q_aload_n rfl rfl rfl ?_
            refine q_getf rfl rfl (by decide) rfl rfl ?_
            refine q_iload_n rfl rfl rfl ?_
            refine q_iald rfl rfl (by decide) rfl (by decide) (q_tn (z := 0) rfl ?_)
            refine q_iadd rfl rfl (q_tn (z := (-1806015097)) rfl ?_)
            refine q_ist2n rfl rfl rfl rfl ?_
            refine q_icc3 (z := 6) rfl rfl rfl rfl rfl ?_
            refine q_goto rfl ?_
            refine q_iload_n rfl rfl rfl ?_
            refine q_bipush rfl rfl ?_
            refine q_icge rfl rfl (fun c363 => absurd c363 (by decide)) (fun c363 => ?_)
            refine q_bipush rfl rfl ?_
            refine q_iload_n rfl rfl rfl ?_
            refine q_imul rfl rfl (q_tn (z := (-151893159)) rfl ?_)
            refine q_aload_n rfl rfl rfl ?_
            refine q_getf rfl rfl (by decide) rfl rfl ?_
            refine q_iload_n rfl rfl rfl ?_
            refine q_iald rfl rfl (by decide) rfl (by decide) (q_tn (z := 0) rfl ?_)
            refine q_iadd rfl rfl (q_tn (z := (-151893159)) rfl ?_)
            refine q_ist2n rfl rfl rfl rfl ?_
            refine q_icc3 (z := 7) rfl rfl rfl rfl rfl ?_
            refine q_goto rfl ?_
            refine q_iload_n rfl rfl rfl ?_
            refine q_bipush rfl rfl ?_
            refine q_icge rfl rfl (fun c364 => absurd c364 (by decide)) (fun c364 => ?_)
            refine q_bipush rfl rfl ?_
            refine q_iload_n rfl rfl rfl ?_
            refine q_imul rfl rfl (q_tn (z := (-413720633)) rfl ?_)
            refine q_aload_n rfl rfl rfl ?_
            refine q_getf rfl rfl (by decide) rfl rfl ?_
            refine q_iload_n rfl rfl rfl ?_
            refine q_iald rfl rfl (by decide) rfl (by decide) (q_tn (z := 0) rfl ?_)
            refine q_iadd rfl rfl (q_tn (z := (-413720633)) rfl ?_)
            refine q_ist2n rfl rfl rfl rfl ?_
            refine q_icc3 (z := 8) rfl rfl rfl rfl rfl ?_
            refine q_goto rfl ?_
            refine q_iload_n rfl rfl rfl ?_
            refine q_bipush rfl rfl ?_
            refine q_icge rfl rfl (fun c365 => absurd c365 (by decide)) (fun c365 => ?_)
            refine q_bipush rfl rfl ?_
            refine q_iload_n rfl rfl rfl ?_
            refine q_imul rfl rfl (q_tn (z := 59562265) rfl ?_)
            refine q_aload_n rfl rfl rfl ?_
            refine q_getf rfl rfl (by decide) rfl rfl ?_
            refine q_iload_n rfl rfl rfl ?_
            refine q_iald rfl rfl (by decide) rfl (by decide) (q_tn (z := 0) rfl ?_)
            refine q_iadd rfl rfl (q_tn (z := 59562265) rfl ?_)
            refine q_ist2n rfl rfl rfl rfl ?_
            refine q_icc3 (z := 9) rfl rfl rfl rfl rfl ?_
            refine q_goto rfl ?_
            refine q_iload_n rfl rfl rfl ?_
            refine q_bipush rfl rfl ?_
            refine q_icge rfl rfl (fun c366 => absurd c366 (by decide)) (fun c366 => ?_)
            refine q_bipush rfl rfl ?_
            refine q_iload_n rfl rfl rfl ?_
            refine q_imul rfl rfl (q_tn (z := 1846430215) rfl ?_)
            refine q_aload_n rfl rfl rfl ?_
            refine q_getf rfl rfl (by decide) rfl rfl ?_
            refine q_iload_n rfl rfl rfl ?_
            refine q_iald rfl rfl (by decide) rfl (by decide) (q_tn (z := 0) rfl ?_)
            refine q_iadd rfl rfl (q_tn (z := 1846430215) rfl ?_)
            refine q_ist2n rfl rfl rfl rfl ?_
            refine q_icc3 (z := 10) rfl rfl rfl rfl rfl ?_
            refine q_goto rfl ?_
            refine q_iload_n rfl rfl rfl ?_
            refine q_bipush rfl rfl ?_
            refine q_icge rfl rfl (fun c367 => absurd c367 (by decide)) (fun c367 => ?_)
            refine q_bipush rfl rfl ?_
            refine q_iload_n rfl rfl rfl ?_
            refine q_imul rfl rfl (q_tn (z := 1404761817) rfl ?_)
            refine q_aload_n rfl rfl rfl ?_
            refine q_getf rfl rfl (by decide) rfl rfl ?_
            refine q_iload_n rfl rfl rfl ?_
            refine q_iald rfl rfl (by decide) rfl (by decide) (q_tn (z := 0) rfl ?_)
            refine q_iadd rfl rfl (q_tn (z := 1404761817) rfl ?_)
            refine q_ist2n rfl rfl rfl rfl ?_
            refine q_icc3 (z := 11) rfl rfl rfl rfl rfl ?_
            refine q_goto rfl ?_
            refine q_iload_n rfl rfl rfl ?_
            refine q_bipush rfl rfl ?_
            refine q_icge rfl rfl (fun c368 => absurd c368 (by decide)) (fun c368 => ?_)
            refine q_bipush rfl rfl ?_
            refine q_iload_n rfl rfl rfl ?_
            refine q_imul rfl rfl (q_tn (z := 597943367) rfl ?_)
            refine q_aload_n rfl rfl rfl ?_
            refine q_getf rfl rfl (by decide) rfl rfl ?_
            refine q_iload_n rfl rfl rfl ?_
            refine q_iald rfl rfl (by decide) rfl (by decide) (q_tn (z := 0) rfl ?_)
            refine q_iadd rfl rfl (q_tn (z := 597943367) rfl ?_)
            refine q_ist2n rfl rfl rfl rfl ?_
            refine q_icc3 (z := 12) rfl rfl rfl rfl rfl ?_
            refine q_goto rfl ?_
            refine q_iload_n rfl rfl rfl ?_
            refine q_bipush rfl rfl ?_
            refine q_icge rfl rfl (fun c369 => absurd c369 (by decide)) (fun c369 => ?_)
            refine q_bipush rfl rfl ?_
            refine q_iload_n rfl rfl rfl ?_
            refine q_imul rfl rfl (q_tn (z := 1356375193) rfl ?_)
            refine q_aload_n rfl rfl rfl ?_
            refine q_getf rfl rfl (by decide) rfl rfl ?_
            refine q_iload_n rfl rfl rfl ?_
            refine q_iald rfl rfl (by decide) rfl (by decide) (q_tn (z := 0) rfl ?_)
            refine q_iadd rfl rfl (q_tn (z := 1356375193) rfl ?_)
            refine q_ist2n rfl rfl rfl rfl ?_
            refine q_icc3 (z := 13) rfl rfl rfl rfl rfl ?_
            refine q_goto rfl ?_
            refine q_iload_n rfl rfl rfl ?_
            refine q_bipush rfl rfl ?_
            refine q_icge rfl rfl (fun c370 => absurd c370 (by decide)) (fun c370 => ?_)
            refine q_bipush rfl rfl ?_
            refine q_iload_n rfl rfl rfl ?_
            refine q_imul rfl rfl (q_tn (z := (-902041977)) rfl ?_)
            refine q_aload_n rfl rfl rfl ?_
            refine q_getf rfl rfl (by decide) rfl rfl ?_
            refine q_iload_n rfl rfl rfl ?_
            refine q_iald rfl rfl (by decide) rfl (by decide) (q_tn (z := 0) rfl ?_)
            refine q_iadd rfl rfl (q_tn (z := (-902041977)) rfl ?_)
            refine q_ist2n rfl rfl rfl rfl ?_
            refine q_icc3 (z := 14) rfl rfl rfl rfl rfl ?_
            refine q_goto rfl ?_
            refine q_iload_n rfl rfl rfl ?_
            refine q_bipush rfl rfl ?_
            refine q_icge rfl rfl (fun c371 => absurd c371 (by decide)) (fun c371 => ?_)
            refine q_bipush rfl rfl ?_
            refine q_iload_n rfl rfl rfl ?_
            refine q_imul rfl rfl (q_tn (z := 2101469785) rfl ?_)
            refine q_aload_n rfl rfl rfl ?_
            refine q_getf rfl rfl (by decide) rfl rfl ?_
            refine q_iload_n rfl rfl rfl ?_
            refine q_iald rfl rfl (by decide) rfl (by decide) (q_tn (z := 0) rfl ?_)
            refine q_iadd rfl rfl (q_tn (z := 2101469785) rfl ?_)
            refine q_ist2n rfl rfl rfl rfl ?_
            refine q_icc3 (z := 15) rfl rfl rfl rfl rfl ?_
            refine q_goto rfl ?_
            refine q_iload_n rfl rfl rfl ?_
            refine q_bipush rfl rfl ?_
            refine q_icge rfl rfl (fun c372 => absurd c372 (by decide)) (fun c372 => ?_)
            refine q_bipush rfl rfl ?_
            refine q_iload_n rfl rfl rfl ?_
            refine q_imul rfl rfl (q_tn (z := 721053895) rfl ?_)
            refine q_aload_n rfl rfl rfl ?_
            refine q_getf rfl rfl (by decide) rfl rfl ?_
            refine q_iload_n rfl rfl rfl ?_
            refine q_iald rfl rfl (by decide) rfl (by decide) (q_tn (z := 0) rfl ?_)
            refine q_iadd rfl rfl (q_tn (z := 721053895) rfl ?_)
            refine q_ist2n rfl rfl rfl rfl ?_
            refine q_icc3 (z := 16) rfl rfl rfl rfl rfl ?_
            refine q_goto rfl ?_
            refine q_iload_n rfl rfl rfl ?_
            refine q_bipush rfl rfl ?_
            refine q_icge rfl rfl (fun c373 => absurd c373 (by decide)) (fun c373 => ?_)
            refine q_bipush rfl rfl ?_
            refine q_iload_n rfl rfl rfl ?_
            refine q_imul rfl rfl (q_tn (z := 877834265) rfl ?_)
            refine q_aload_n rfl rfl rfl ?_
            refine q_getf rfl rfl (by decide) rfl rfl ?_
            refine q_iload_n rfl rfl rfl ?_
            refine q_iald rfl rfl (by decide) rfl (by decide) (q_tn (z := 0) rfl ?_)
            refine q_iadd rfl rfl (q_tn (z := 877834265) rfl ?_)
            refine q_ist2n rfl rfl rfl rfl ?_
            refine q_icc3 (z := 17) rfl rfl rfl rfl rfl ?_
            refine q_goto rfl ?_
            refine q_iload_n rfl rfl rfl ?_
            refine q_bipush rfl rfl ?_
            refine q_icge rfl rfl (fun c374 => absurd c374 (by decide)) (fun c374 => ?_)
            refine q_bipush rfl rfl ?_
            refine q_iload_n rfl rfl rfl ?_
            refine q_imul rfl rfl (q_tn (z := 1443058439) rfl ?_)
            refine q_aload_n rfl rfl rfl ?_
            refine q_getf rfl rfl (by decide) rfl rfl ?_
            refine q_iload_n rfl rfl rfl ?_
            refine q_iald rfl rfl (by decide) rfl (by decide) (q_tn (z := 0) rfl ?_)
            refine q_iadd rfl rfl (q_tn (z := 1443058439) rfl ?_)
            refine q_ist2n rfl rfl rfl rfl ?_
            refine q_icc3 (z := 18) rfl rfl rfl rfl rfl ?_
            refine q_goto rfl ?_
            refine q_iload_n rfl rfl rfl ?_
            refine q_bipush rfl rfl ?_
            refine q_icge rfl rfl (fun c375 => absurd c375 (by decide)) (fun c375 => ?_)
            refine q_bipush rfl rfl ?_
            refine q_iload_n rfl rfl rfl ?_
            refine q_imul rfl rfl (q_tn (z := 1785138649) rfl ?_)
            refine q_aload_n rfl rfl rfl ?_
            refine q_getf rfl rfl (by decide) rfl rfl ?_
            refine q_iload_n rfl rfl rfl ?_
            refine q_iald rfl rfl (by decide) rfl (by decide) (q_tn (z := 0) rfl ?_)
            refine q_iadd rfl rfl (q_tn (z := 1785138649) rfl ?_)
            refine q_ist2n rfl rfl rfl rfl ?_
            refine q_icc3 (z := 19) rfl rfl rfl rfl rfl ?_
            refine q_goto rfl ?_
            refine q_iload_n rfl rfl rfl ?_
            refine q_bipush rfl rfl ?_
            refine q_icge rfl rfl (fun c376 => absurd c376 (by decide)) (fun c376 => ?_)
            refine q_bipush rfl rfl ?_
            refine q_iload_n rfl rfl rfl ?_
            refine q_imul rfl rfl (q_tn (z := (-495276729)) rfl ?_)
            refine q_aload_n rfl rfl rfl ?_
            refine q_getf rfl rfl (by decide) rfl rfl ?_
            refine q_iload_n rfl rfl rfl ?_
            refine q_iald rfl rfl (by decide) rfl (by decide) (q_tn (z := 0) rfl ?_)
            refine q_iadd rfl rfl (q_tn (z := (-495276729)) rfl ?_)
            refine q_ist2n rfl rfl rfl rfl ?_
            refine q_icc3 (z := 20) rfl rfl rfl rfl rfl ?_
            refine q_goto rfl ?_
            refine q_iload_n rfl rfl rfl ?_
            refine q_bipush rfl rfl ?_
            refine q_icge rfl rfl (fun c377 => ?_) (fun c377 => absurd (by decide) c377)
            refine q_sipush rfl rfl ?_
            refine q_iload_n rfl rfl rfl ?_
            refine q_imul rfl rfl (q_tn (z := 8192) rfl ?_)
            refine q_iload_n rfl rfl rfl ?_
            refine q_iload_n rfl rfl rfl ?_
            refine q_bipush rfl rfl ?_
            refine q_iushr rfl rfl (q_tn (z := 463829) rfl ?_)
            refine q_ixor rfl rfl (q_tn (z := (-495075694)) rfl ?_)
            refine q_sipush rfl rfl ?_
            refine q_irem rfl rfl (by decide) (q_tn (z := (-366)) rfl ?_)
            refine q_iload_n rfl rfl rfl ?_
            refine q_iload_n rfl rfl rfl ?_
            refine q_bipush rfl rfl ?_
            refine q_iushr rfl rfl (q_tn (z := 463829) rfl ?_)
            refine q_ixor rfl rfl (q_tn (z := (-495075694)) rfl ?_)
            refine q_sipush rfl rfl ?_
            refine q_irem rfl rfl (by decide) (q_tn (z := (-366)) rfl ?_)
            refine q_ifge rfl rfl (fun c378 => absurd c378 (by decide)) (fun c378 => ?_)
            refine q_iconst rfl rfl ?_
            refine q_goto rfl ?_
            refine q_imul rfl rfl (q_tn (z := 366) rfl ?_)
            refine q_iadd rfl rfl (q_tn (z := 8558) rfl ?_)
            refine q_iret rfl rfl trivial ?_
            refine ⟨_, rfl, ?_⟩
            refine q_ist6 rfl rfl rfl rfl ?_
            refine q_aload_n rfl rfl rfl ?_
            refine q_getf rfl rfl (by decide) rfl rfl ?_
            refine q_iload rfl rfl rfl ?_
            refine q_aload_n rfl rfl rfl ?_
            refine q_getf rfl rfl (by decide) rfl rfl ?_
            refine q_iload rfl rfl rfl ?_
            refine q_iald rfl rfl (by decide) rfl (by decide) (q_tn (z := (-1)) rfl ?_)
            refine q_iast rfl rfl (by decide) (FW_58 S hW) (by decide) ?_
            refine q_aload_n rfl rfl rfl ?_
            refine q_getf rfl rfl (by decide) rfl rfl ?_
            refine q_iload rfl rfl rfl ?_
            refine q_iload rfl rfl rfl ?_
            refine q_iast rfl rfl (by decide) rfl (by decide) ?_
            refine q_aload_n rfl rfl rfl ?_
            refine q_getf rfl rfl (by decide) rfl rfl ?_
            refine q_iload_n rfl rfl rfl ?_
            refine q_dup2 rfl rfl ?_
            refine q_iald rfl rfl (by decide) rfl (by decide) (q_tn (z := 0) rfl ?_)
            refine q_iconst rfl rfl ?_
            refine q_iadd rfl rfl (q_tn (z := 1) rfl ?_)
            refine q_iast rfl rfl (by decide) rfl (by decide) ?_
            refine q_iload rfl rfl rfl ?_
            refine q_iret rfl rfl trivial ?_
            refine ⟨_, rfl, ?_⟩
            refine q_ist3n rfl rfl rfl rfl ?_
            refine q_iconst rfl rfl ?_
            refine q_ist4 rfl rfl rfl rfl ?_
            refine q_iload rfl rfl rfl ?_
            refine q_aload_n rfl rfl rfl ?_
            refine q_getf rfl rfl (by decide) rfl rfl ?_
            refine q_iload_n rfl rfl rfl ?_
            refine q_iald rfl rfl (by decide) rfl (by decide) (q_tn (z := 1) rfl ?_)
            refine q_icge rfl rfl (fun c379 => absurd c379 (by decide)) (fun c379 => ?_)
            refine q_iconst rfl rfl ?_
            refine q_ist5 rfl rfl rfl rfl ?_
            refine q_iload rfl rfl rfl ?_
            refine q_iconst rfl rfl ?_
            refine q_icge rfl rfl (fun c380 => absurd c380 (by decide)) (fun c380 => ?_)
            refine q_iconst rfl rfl ?_
            refine q_sipush rfl rfl ?_
            refine q_iload_n rfl rfl rfl ?_
            refine q_imul rfl rfl (q_tn (z := 2000) rfl ?_)
            refine q_iload rfl rfl rfl ?_
            refine q_iadd rfl rfl (q_tn (z := 2000) rfl ?_)
            refine q_imul rfl rfl (q_tn (z := 6000) rfl ?_)
            refine q_iload rfl rfl rfl ?_
            refine q_iadd rfl rfl (q_tn (z := 6000) rfl ?_)
            refine q_ist6 rfl rfl rfl rfl ?_
            refine q_aload_n rfl rfl rfl ?_
            refine q_getf rfl rfl (by decide) rfl rfl ?_
            refine q_iload rfl rfl rfl ?_
            refine q_iconst rfl rfl ?_
            refine q_iast rfl rfl (by decide) (FW_59 S hW) (by decide) ?_
            refine q_aload_n rfl rfl rfl ?_
            refine q_iload_n rfl rfl rfl ?_
            refine q_iload rfl rfl rfl ?_
            refine q_cV2v rfl rfl (Or.inl rfl) rfl rfl rfl (by decide) rfl ⟨rfl, rfl⟩ rfl (fun K' hK' => l_sa (R := 1) (by decide) rfl (by decide) rfl rfl rfl rfl rfl hK') ?_
            refine q_iload rfl rfl rfl ?_
            refine q_aload_n rfl rfl rfl ?_
            refine q_getf rfl rfl (by decide) rfl rfl ?_
            refine q_icge rfl rfl (fun c381 => absurd c381 (by decide)) (fun c381 => ?_)
            refine q_aload_n rfl rfl rfl ?_
            refine q_iload rfl rfl rfl ?_
            refine q_iload_n rfl rfl rfl ?_
            refine q_nV2 rfl rfl (Or.inl rfl) rfl rfl rfl (by decide) rfl ⟨rfl, rfl⟩ rfl ?_
            change PQ _ _ _ mm_X12_maySteps 0 [.ref 46, .int 0, .int 1, pm_un, pm_un, pm_un] [] _ _ 0 0 _
            refine q_aload_n rfl rfl rfl ?_
            refine q_iload_n rfl rfl rfl ?_
            refine q_iload_n rfl rfl rfl ?_
            refine q_nV2 rfl rfl (Or.inl rfl) rfl rfl rfl (by decide) rfl ⟨rfl, rfl⟩ rfl ?_
            change PQ _ _ _ mm_X12_canStep 0 [.ref 46, .int 0, .int 1, pm_un] [] _ _ 0 0 _
            refine q_aload_n rfl rfl rfl ?_
            refine q_iload_n rfl rfl rfl ?_
            refine q_nV1 rfl rfl (Or.inl rfl) rfl rfl rfl (by decide) rfl ⟨rfl, rfl⟩ rfl ?_
            change PQ _ _ _ mm_X12_isOver 0 [.ref 46, .int 0] [] _ _ 0 0 _
            refine q_aload_n rfl rfl rfl ?_
            refine q_getf rfl rfl (by decide) rfl rfl ?_
            refine q_iconst rfl rfl ?_
            refine q_iload_n rfl rfl rfl ?_
            refine q_imul rfl rfl (q_tn (z := 0) rfl ?_)
            refine q_iald rfl rfl (by decide) rfl (by decide) (q_tn (z := 10) rfl ?_)
            refine q_bipush rfl rfl ?_
            refine q_iclt rfl rfl (fun c382 => absurd c382 (by decide)) (fun c382 => ?_)
            refine q_iconst rfl rfl ?_
            refine q_goto rfl ?_
            refine q_iret rfl rfl rfl ?_
            refine ⟨_, rfl, ?_⟩
            refine q_ifeq rfl rfl (fun c383 => absurd c383 (by decide)) (fun c383 => ?_)
            refine q_iconst rfl rfl ?_
            refine q_iret rfl rfl rfl ?_
            refine ⟨_, rfl, ?_⟩
            refine q_ifne rfl rfl (fun c384 => ?_) (fun c384 => absurd (by decide) c384)
            refine q_iconst rfl rfl ?_
            refine q_iret rfl rfl rfl ?_
            refine ⟨_, rfl, ?_⟩
            refine q_ifne rfl rfl (fun c385 => ?_) (fun c385 => absurd (by decide) c385)
            refine q_goto rfl ?_
            refine q_icc5 (z := 1) rfl rfl rfl rfl rfl ?_
            refine q_goto rfl ?_
            refine q_iload rfl rfl rfl ?_
            refine q_iconst rfl rfl ?_
            refine q_icge rfl rfl (fun c386 => absurd c386 (by decide)) (fun c386 => ?_)
            refine q_iconst rfl rfl ?_
            refine q_sipush rfl rfl ?_
            refine q_iload_n rfl rfl rfl ?_
            refine q_imul rfl rfl (q_tn (z := 2000) rfl ?_)
            refine q_iload rfl rfl rfl ?_
            refine q_iadd rfl rfl (q_tn (z := 2000) rfl ?_)
            refine q_imul rfl rfl (q_tn (z := 6000) rfl ?_)
            refine q_iload rfl rfl rfl ?_
            refine q_iadd rfl rfl (q_tn (z := 6001) rfl ?_)
            refine q_ist6 rfl rfl rfl rfl ?_
            refine q_aload_n rfl rfl rfl ?_
            refine q_getf rfl rfl (by decide) rfl rfl ?_
            refine q_iload rfl rfl rfl ?_
            refine q_iconst rfl rfl ?_
            refine q_iast rfl rfl (by decide) rfl (by decide) ?_
            refine q_aload_n rfl rfl rfl ?_
            refine q_iload_n rfl rfl rfl ?_
            refine q_iload rfl rfl rfl ?_
            refine q_cV2v rfl rfl (Or.inl rfl) rfl rfl rfl (by decide) rfl ⟨rfl, rfl⟩ rfl (fun K' hK' => l_sa (R := 1) (by decide) rfl (by decide) rfl rfl rfl rfl rfl hK') ?_
            refine q_iload rfl rfl rfl ?_
            refine q_aload_n rfl rfl rfl ?_
            refine q_getf rfl rfl (by decide) rfl rfl ?_
            refine q_icge rfl rfl (fun c387 => ?_) (fun c387 => absurd (by decide) c387)
            refine q_icc5 (z := 2) rfl rfl rfl rfl rfl ?_
            refine q_goto rfl ?_
            refine q_iload rfl rfl rfl ?_
            refine q_iconst rfl rfl ?_
            refine q_icge rfl rfl (fun c388 => absurd c388 (by decide)) (fun c388 => ?_)
            refine q_iconst rfl rfl ?_
            refine q_sipush rfl rfl ?_
            refine q_iload_n rfl rfl rfl ?_
            refine q_imul rfl rfl (q_tn (z := 2000) rfl ?_)
            refine q_iload rfl rfl rfl ?_
            refine q_iadd rfl rfl (q_tn (z := 2000) rfl ?_)
            refine q_imul rfl rfl (q_tn (z := 6000) rfl ?_)
            refine q_iload rfl rfl rfl ?_
            refine q_iadd rfl rfl (q_tn (z := 6002) rfl ?_)
            refine q_ist6 rfl rfl rfl rfl ?_
            refine q_aload_n rfl rfl rfl ?_
            refine q_getf rfl rfl (by decide) rfl rfl ?_
            refine q_iload rfl rfl rfl ?_
            refine q_iconst rfl rfl ?_
            refine q_iast rfl rfl (by decide) rfl (by decide) ?_
            refine q_aload_n rfl rfl rfl ?_
            refine q_iload_n rfl rfl rfl ?_
            refine q_iload rfl rfl rfl ?_
            refine q_cV2v rfl rfl (Or.inl rfl) rfl rfl rfl (by decide) rfl ⟨rfl, rfl⟩ rfl (fun K' hK' => l_sa (R := 1) (by decide) rfl (by decide) rfl rfl rfl rfl rfl hK') ?_
            refine q_iload rfl rfl rfl ?_
            refine q_aload_n rfl rfl rfl ?_
            refine q_getf rfl rfl (by decide) rfl rfl ?_
            refine q_icge rfl rfl (fun c389 => ?_) (fun c389 => absurd (by decide) c389)
            refine q_icc5 (z := 3) rfl rfl rfl rfl rfl ?_
            refine q_goto rfl ?_
            refine q_iload rfl rfl rfl ?_
            refine q_iconst rfl rfl ?_
            refine q_icge rfl rfl (fun c390 => ?_) (fun c390 => absurd (by decide) c390)
            refine q_icc4 (z := 1) rfl rfl rfl rfl rfl ?_
            refine q_goto rfl ?_
            refine q_iload rfl rfl rfl ?_
            refine q_aload_n rfl rfl rfl ?_
            refine q_getf rfl rfl (by decide) rfl rfl ?_
            refine q_iload_n rfl rfl rfl ?_
            refine q_iald rfl rfl (by decide) rfl (by decide) (q_tn (z := 1) rfl ?_)
            refine q_icge rfl rfl (fun c391 => ?_) (fun c391 => absurd (by decide) c391)
            refine q_iconst rfl rfl ?_
            refine q_iret rfl rfl rfl ?_
            refine ⟨_, rfl, ?_⟩
            refine q_ifeq rfl rfl (fun c392 => absurd c392 (by decide)) (fun c392 => ?_)
            refine q_iconst rfl rfl ?_
            refine q_goto rfl ?_
            refine q_iast rfl rfl (by decide) (FW_62 S hW) (by decide) ?_
            refine q_iload_n rfl rfl rfl ?_
            refine q_ifne rfl rfl (fun c393 => absurd c393 (by decide)) (fun c393 => ?_)
            refine q_aload_n rfl rfl rfl ?_
            refine q_getf rfl rfl (by decide) rfl rfl ?_
            refine q_iload_n rfl rfl rfl ?_
            refine q_aload_n rfl rfl rfl ?_
            refine q_getf rfl rfl (by decide) rfl rfl ?_
            refine q_iload_n rfl rfl rfl ?_
            refine q_iald rfl rfl (by decide) rfl (by decide) (q_tn (z := 1) rfl ?_)
            refine q_iast rfl rfl (by decide) (FW_63 S hW) (by decide) ?_
            refine q_iconst rfl rfl ?_
            refine q_ist3n rfl rfl rfl rfl ?_
            refine q_iload_n rfl rfl rfl ?_
            refine q_iconst rfl rfl ?_
            refine q_icge rfl rfl (fun c394 => absurd c394 (by decide)) (fun c394 => ?_)
            refine q_aload_n rfl rfl rfl ?_
            refine q_getf rfl rfl (by decide) rfl rfl ?_
            refine q_iconst rfl rfl ?_
            refine q_iload_n rfl rfl rfl ?_
            refine q_imul rfl rfl (q_tn (z := 4) rfl ?_)
            refine q_iload_n rfl rfl rfl ?_
            refine q_iadd rfl rfl (q_tn (z := 4) rfl ?_)
            refine q_iconst rfl rfl ?_
            refine q_iast rfl rfl (by decide) (FW_64 S hW) (by decide) ?_
            refine q_icc3 (z := 1) rfl rfl rfl rfl rfl ?_
            refine q_goto rfl ?_
            refine q_iload_n rfl rfl rfl ?_
            refine q_iconst rfl rfl ?_
            refine q_icge rfl rfl (fun c395 => absurd c395 (by decide)) (fun c395 => ?_)
            refine q_aload_n rfl rfl rfl ?_
            refine q_getf rfl rfl (by decide) rfl rfl ?_
            refine q_iconst rfl rfl ?_
            refine q_iload_n rfl rfl rfl ?_
            refine q_imul rfl rfl (q_tn (z := 4) rfl ?_)
            refine q_iload_n rfl rfl rfl ?_
            refine q_iadd rfl rfl (q_tn (z := 5) rfl ?_)
            refine q_iconst rfl rfl ?_
            refine q_iast rfl rfl (by decide) rfl (by decide) ?_
            refine q_icc3 (z := 2) rfl rfl rfl rfl rfl ?_
            refine q_goto rfl ?_
            refine q_iload_n rfl rfl rfl ?_
            refine q_iconst rfl rfl ?_
            refine q_icge rfl rfl (fun c396 => absurd c396 (by decide)) (fun c396 => ?_)
            refine q_aload_n rfl rfl rfl ?_
            refine q_getf rfl rfl (by decide) rfl rfl ?_
            refine q_iconst rfl rfl ?_
            refine q_iload_n rfl rfl rfl ?_
            refine q_imul rfl rfl (q_tn (z := 4) rfl ?_)
            refine q_iload_n rfl rfl rfl ?_
            refine q_iadd rfl rfl (q_tn (z := 6) rfl ?_)
            refine q_iconst rfl rfl ?_
            refine q_iast rfl rfl (by decide) rfl (by decide) ?_
            refine q_icc3 (z := 3) rfl rfl rfl rfl rfl ?_
            refine q_goto rfl ?_
            refine q_iload_n rfl rfl rfl ?_
            refine q_iconst rfl rfl ?_
            refine q_icge rfl rfl (fun c397 => absurd c397 (by decide)) (fun c397 => ?_)
            refine q_aload_n rfl rfl rfl ?_
            refine q_getf rfl rfl (by decide) rfl rfl ?_
            refine q_iconst rfl rfl ?_
            refine q_iload_n rfl rfl rfl ?_
            refine q_imul rfl rfl (q_tn (z := 4) rfl ?_)
            refine q_iload_n rfl rfl rfl ?_
            refine q_iadd rfl rfl (q_tn (z := 7) rfl ?_)
            refine q_iconst rfl rfl ?_
            refine q_iast rfl rfl (by decide) rfl (by decide) ?_
            refine q_icc3 (z := 4) rfl rfl rfl rfl rfl ?_
            refine q_goto rfl ?_
            refine q_iload_n rfl rfl rfl ?_
            refine q_iconst rfl rfl ?_
            refine q_icge rfl rfl (fun c398 => ?_) (fun c398 => absurd (by decide) c398)
            refine q_iconst rfl rfl ?_
            refine q_ist3n rfl rfl rfl rfl ?_
            refine q_iload_n rfl rfl rfl ?_
            refine q_aload_n rfl rfl rfl ?_
            refine q_getf rfl rfl (by decide) rfl rfl ?_
            refine q_iload_n rfl rfl rfl ?_
            refine q_iald rfl rfl (by decide) rfl (by decide) (q_tn (z := 1) rfl ?_)
            refine q_icge rfl rfl (fun c399 => absurd c399 (by decide)) (fun c399 => ?_)
            refine q_aload_n rfl rfl rfl ?_
            refine q_iload_n rfl rfl rfl ?_
            refine q_iload_n rfl rfl rfl ?_
            refine q_cV2v rfl rfl (Or.inl rfl) rfl rfl rfl (by decide) rfl ⟨rfl, rfl⟩ rfl (fun K' hK' => l_sa (R := 1) (by decide) rfl (by decide) rfl rfl rfl rfl rfl hK') ?_
            refine q_aload_n rfl rfl rfl ?_
            refine q_nV0 rfl rfl (Or.inl rfl) rfl rfl rfl (by decide) rfl ⟨rfl, rfl⟩ rfl ?_
            change PQ _ _ _ mm_X12_isEnd 0 [.ref 46, pm_un, pm_un] [] _ _ 0 0 _
            refine q_iconst rfl rfl ?_
            refine q_ist1n rfl rfl rfl rfl ?_
            refine q_iconst rfl rfl ?_
            refine q_ist2n rfl rfl rfl rfl ?_
            refine q_iload_n rfl rfl rfl ?_
            refine q_aload_n rfl rfl rfl ?_
            refine q_getf rfl rfl (by decide) rfl rfl ?_
            refine q_icge rfl rfl (fun c400 => absurd c400 (by decide)) (fun c400 => ?_)
            refine q_iload_n rfl rfl rfl ?_
            refine q_ifeq rfl rfl (fun c401 => absurd c401 (by decide)) (fun c401 => ?_)
            refine q_aload_n rfl rfl rfl ?_
            refine q_iload_n rfl rfl rfl ?_
            refine q_nV1 rfl rfl (Or.inl rfl) rfl rfl rfl (by decide) rfl ⟨rfl, rfl⟩ rfl ?_
            change PQ _ _ _ mm_X12_isOver 0 [.ref 46, .int 0] [] _ _ 0 0 _
            refine q_aload_n rfl rfl rfl ?_
            refine q_getf rfl rfl (by decide) rfl rfl ?_
            refine q_iconst rfl rfl ?_
            refine q_iload_n rfl rfl rfl ?_
            refine q_imul rfl rfl (q_tn (z := 0) rfl ?_)
            refine q_iald rfl rfl (by decide) rfl (by decide) (q_tn (z := 10) rfl ?_)
            refine q_bipush rfl rfl ?_
            refine q_iclt rfl rfl (fun c402 => absurd c402 (by decide)) (fun c402 => ?_)
            refine q_iconst rfl rfl ?_
            refine q_goto rfl ?_
            refine q_iret rfl rfl rfl ?_
            refine ⟨_, rfl, ?_⟩
            refine q_ifeq rfl rfl (fun c403 => absurd c403 (by decide)) (fun c403 => ?_)
            refine q_iconst rfl rfl ?_
            refine q_goto rfl ?_
            refine q_ist1n rfl rfl rfl rfl ?_
            refine q_icc2 (z := 1) rfl rfl rfl rfl rfl ?_
            refine q_goto rfl ?_
            refine q_iload_n rfl rfl rfl ?_
            refine q_aload_n rfl rfl rfl ?_
            refine q_getf rfl rfl (by decide) rfl rfl ?_
            refine q_icge rfl rfl (fun c404 => ?_) (fun c404 => absurd (by decide) c404)
            refine q_iload_n rfl rfl rfl ?_
            refine q_iret rfl rfl rfl ?_
            refine ⟨_, rfl, ?_⟩
            refine q_ifne rfl rfl (fun c405 => absurd c405 (by decide)) (fun c405 => ?_)
            refine q_iconst rfl rfl ?_
            refine q_ist4 rfl rfl rfl rfl ?_
            refine q_iload rfl rfl rfl ?_
            refine q_iconst rfl rfl ?_
            refine q_icge rfl rfl (fun c406 => absurd c406 (by decide)) (fun c406 => ?_)
            refine q_aload_n rfl rfl rfl ?_
            refine q_getf rfl rfl (by decide) rfl rfl ?_
            refine q_iconst rfl rfl ?_
            refine q_iload_n rfl rfl rfl ?_
            refine q_imul rfl rfl (q_tn (z := 4) rfl ?_)
            refine q_iload rfl rfl rfl ?_
            refine q_iadd rfl rfl (q_tn (z := 4) rfl ?_)
            refine q_dup2 rfl rfl ?_
            refine q_iald rfl rfl (by decide) rfl (by decide) (q_tn (z := 0) rfl ?_)
            refine q_iconst rfl rfl ?_
            refine q_aload_n rfl rfl rfl ?_
            refine q_getf rfl rfl (by decide) rfl rfl ?_
            refine q_bipush rfl rfl ?_
            refine q_iload rfl rfl rfl ?_
            refine q_iadd rfl rfl (q_tn (z := 12) rfl ?_)
            refine q_iald rfl rfl (by decide) rfl (by decide) (q_tn (z := 0) rfl ?_)
            refine q_ishl rfl rfl (q_tn (z := 1) rfl ?_)
            refine q_ior rfl rfl (q_tn (z := 1) rfl ?_)
            refine q_iast rfl rfl (by decide) rfl (by decide) ?_
            refine q_icc4 (z := 1) rfl rfl rfl rfl rfl ?_
            refine q_goto rfl ?_
            refine q_iload rfl rfl rfl ?_
            refine q_iconst rfl rfl ?_
            refine q_icge rfl rfl (fun c407 => absurd c407 (by decide)) (fun c407 => ?_)
            refine q_aload_n rfl rfl rfl ?_
            refine q_getf rfl rfl (by decide) rfl rfl ?_
            refine q_iconst rfl rfl ?_
            refine q_iload_n rfl rfl rfl ?_
            refine q_imul rfl rfl (q_tn (z := 4) rfl ?_)
            refine q_iload rfl rfl rfl ?_
            refine q_iadd rfl rfl (q_tn (z := 5) rfl ?_)
            refine q_dup2 rfl rfl ?_
            refine q_iald rfl rfl (by decide) rfl (by decide) (q_tn (z := 0) rfl ?_)
            refine q_iconst rfl rfl ?_
            refine q_aload_n rfl rfl rfl ?_
            refine q_getf rfl rfl (by decide) rfl rfl ?_
            refine q_bipush rfl rfl ?_
            refine q_iload rfl rfl rfl ?_
            refine q_iadd rfl rfl (q_tn (z := 13) rfl ?_)
            refine q_iald rfl rfl (by decide) rfl (by decide) (q_tn (z := 0) rfl ?_)
            refine q_ishl rfl rfl (q_tn (z := 1) rfl ?_)
            refine q_ior rfl rfl (q_tn (z := 1) rfl ?_)
            refine q_iast rfl rfl (by decide) rfl (by decide) ?_
            refine q_icc4 (z := 2) rfl rfl rfl rfl rfl ?_
            refine q_goto rfl ?_
            refine q_iload rfl rfl rfl ?_
            refine q_iconst rfl rfl ?_
            refine q_icge rfl rfl (fun c408 => absurd c408 (by decide)) (fun c408 => ?_)
            refine q_aload_n rfl rfl rfl ?_
            refine q_getf rfl rfl (by decide) rfl rfl ?_
            refine q_iconst rfl rfl ?_
            refine q_iload_n rfl rfl rfl ?_
            refine q_imul rfl rfl (q_tn (z := 4) rfl ?_)
            refine q_iload rfl rfl rfl ?_
            refine q_iadd rfl rfl (q_tn (z := 6) rfl ?_)
            refine q_dup2 rfl rfl ?_
            refine q_iald rfl rfl (by decide) rfl (by decide) (q_tn (z := 0) rfl ?_)
            refine q_iconst rfl rfl ?_
            refine q_aload_n rfl rfl rfl ?_
            refine q_getf rfl rfl (by decide) rfl rfl ?_
            refine q_bipush rfl rfl ?_
            refine q_iload rfl rfl rfl ?_
            refine q_iadd rfl rfl (q_tn (z := 14) rfl ?_)
            refine q_iald rfl rfl (by decide) rfl (by decide) (q_tn (z := 0) rfl ?_)
            refine q_ishl rfl rfl (q_tn (z := 1) rfl ?_)
            refine q_ior rfl rfl (q_tn (z := 1) rfl ?_)
            refine q_iast rfl rfl (by decide) rfl (by decide) ?_
            refine q_icc4 (z := 3) rfl rfl rfl rfl rfl ?_
            refine q_goto rfl ?_
            refine q_iload rfl rfl rfl ?_
            refine q_iconst rfl rfl ?_
            refine q_icge rfl rfl (fun c409 => absurd c409 (by decide)) (fun c409 => ?_)
            refine q_aload_n rfl rfl rfl ?_
            refine q_getf rfl rfl (by decide) rfl rfl ?_
            refine q_iconst rfl rfl ?_
            refine q_iload_n rfl rfl rfl ?_
            refine q_imul rfl rfl (q_tn (z := 4) rfl ?_)
            refine q_iload rfl rfl rfl ?_
            refine q_iadd rfl rfl (q_tn (z := 7) rfl ?_)
            refine q_dup2 rfl rfl ?_
            refine q_iald rfl rfl (by decide) rfl (by decide) (q_tn (z := 0) rfl ?_)
            refine q_iconst rfl rfl ?_
            refine q_aload_n rfl rfl rfl ?_
            refine q_getf rfl rfl (by decide) rfl rfl ?_
            refine q_bipush rfl rfl ?_
            refine q_iload rfl rfl rfl ?_
            refine q_iadd rfl rfl (q_tn (z := 15) rfl ?_)
            refine q_iald rfl rfl (by decide) rfl (by decide) (q_tn (z := 0) rfl ?_)
            refine q_ishl rfl rfl (q_tn (z := 1) rfl ?_)
            refine q_ior rfl rfl (q_tn (z := 1) rfl ?_)
            refine q_iast rfl rfl (by decide) rfl (by decide) ?_
            refine q_icc4 (z := 4) rfl rfl rfl rfl rfl ?_
            refine q_goto rfl ?_
            refine q_iload rfl rfl rfl ?_
            refine q_iconst rfl rfl ?_
            refine q_icge rfl rfl (fun c410 => ?_) (fun c410 => absurd (by decide) c410)
            refine q_icc3 (z := 1) rfl rfl rfl rfl rfl ?_
            refine q_goto rfl ?_
            refine q_iload_n rfl rfl rfl ?_
            refine q_aload_n rfl rfl rfl ?_
            refine q_getf rfl rfl (by decide) rfl rfl ?_
            refine q_iload_n rfl rfl rfl ?_
            refine q_iald rfl rfl (by decide) rfl (by decide) (q_tn (z := 1) rfl ?_)
            refine q_icge rfl rfl (fun c411 => ?_) (fun c411 => absurd (by decide) c411)
            refine q_aload_n rfl rfl rfl ?_
            refine q_getf rfl rfl (by decide) rfl rfl ?_
            refine q_iload_n rfl rfl rfl ?_
            refine q_iald rfl rfl (by decide) rfl (by decide) (q_tn (z := 1) rfl ?_)
            refine q_iconst rfl rfl ?_
            refine q_icne rfl rfl (fun c412 => absurd c412 (by decide)) (fun c412 => ?_)
            refine q_iconst rfl rfl ?_
            refine q_iret rfl rfl rfl ?_
            refine ⟨_, rfl, ?_⟩
            refine q_ifeq rfl rfl (fun c413 => ?_) (fun c413 => absurd (by decide) c413)
            refine q_aload_n rfl rfl rfl ?_
            refine q_getf rfl rfl (by decide) rfl rfl ?_
            refine q_iload_n rfl rfl rfl ?_
            refine q_iald rfl rfl (by decide) rfl (by decide) (q_tn (z := 1) rfl ?_)
            refine q_iret rfl rfl trivial ?_
            refine ⟨_, rfl, ?_⟩
            refine q_iceq rfl rfl (fun c414 => ?_) (fun c414 => absurd (by decide) c414)
            refine q_icc4 (z := 6) rfl rfl rfl rfl rfl ?_
            refine q_goto rfl ?_
            refine q_iload rfl rfl rfl ?_
            refine q_aload_nF rfl rfl rfl ?_
            refine q_alenX (x := 6) rfl rfl rfl ?_
            refine q_bipush rfl rfl ?_
            refine q_isub rfl rfl (q_tn (z := 0) rfl ?_)
            refine q_icgt rfl rfl (fun c415 => ?_) (fun c415 => absurd (by decide) c415)
            refine q_iconst rfl rfl ?_
            refine q_iret rfl rfl rfl ?_
            exact hK _ _
        · refine q_aload_n rfl rfl rfl ?_
          refine q_getf rfl rfl (by decide) rfl rfl ?_
          refine q_iconst rfl rfl ?_
          refine q_iceq rfl rfl (fun c416 => ?_) (fun c416 => ?_)
          · subst c416
            refine q_iconst rfl rfl ?_
            refine q_ist3n rfl rfl rfl rfl ?_
            refine q_iload_n rfl rfl rfl ?_
            refine q_aload_n rfl rfl rfl ?_
            refine q_getf rfl rfl (by decide) rfl rfl ?_
            refine q_getf rfl rfl (by decide) (FW_1 S hW) rfl ?_
            refine q_icgt rfl rfl (fun c417 => absurd c417 (by decide)) (fun c417 => ?_)
            refine q_iload_n rfl rfl rfl ?_
            refine q_iload_n rfl rfl rfl ?_
            refine q_iadd rfl rfl (q_tn (z := 0) rfl ?_)
            refine q_aload_n rfl rfl rfl ?_
            refine q_getf rfl rfl (by decide) rfl rfl ?_
            refine q_getf rfl rfl (by decide) (FW_1 S hW) rfl ?_
            refine q_icge rfl rfl (fun c418 => absurd c418 (by decide)) (fun c418 => ?_)
            refine q_iload_n rfl rfl rfl ?_
            refine q_iload_n rfl rfl rfl ?_
            refine q_iadd rfl rfl (q_tn (z := 0) rfl ?_)
            refine q_goto rfl ?_
            refine q_ist4 rfl rfl rfl rfl ?_
            refine q_iload_n rfl rfl rfl ?_
            refine q_iload rfl rfl rfl ?_
            refine q_iushr rfl rfl (q_tn (z := 0) rfl ?_)
            refine q_iconst rfl rfl ?_
            refine q_iand rfl rfl (q_tn (z := 0) rfl ?_)
            refine q_ifeq rfl rfl (fun c419 => ?_) (fun c419 => absurd (by decide) c419)
            refine q_icc3 (z := 2) rfl rfl rfl rfl rfl ?_
            refine q_goto rfl ?_
            refine q_iload_n rfl rfl rfl ?_
            refine q_aload_n rfl rfl rfl ?_
            refine q_getf rfl rfl (by decide) rfl rfl ?_
            refine q_getf rfl rfl (by decide) (FW_1 S hW) rfl ?_
            refine q_icgt rfl rfl (fun c420 => ?_) (fun c420 => absurd (by decide) c420)
            refine q_iconst rfl rfl ?_
            refine q_iret rfl rfl trivial ?_
            refine ⟨_, rfl, ?_⟩
            refine q_ist5 rfl rfl rfl rfl ?_
            refine q_iconst rfl rfl ?_
            refine q_ist6 rfl rfl rfl rfl ?_
            refine q_iload rfl rfl rfl ?_
            refine q_iconst rfl rfl ?_
            refine q_icge rfl rfl (fun c421 => absurd c421 (by decide)) (fun c421 => ?_)
            refine q_iconst rfl rfl ?_
            refine q_ist7 rfl rfl rfl rfl ?_
            refine q_iload rfl rfl rfl ?_
            refine q_iload rfl rfl rfl ?_
            refine q_iushr rfl rfl (q_tn (z := 0) rfl ?_)
            refine q_iconst rfl rfl ?_
            refine q_iand rfl rfl (q_tn (z := 0) rfl ?_)
            refine q_ifeq rfl rfl (fun c422 => ?_) (fun c422 => absurd (by decide) c422)
            refine q_aload_n rfl rfl rfl ?_
            refine q_getf rfl rfl (by decide) rfl rfl ?_
            refine q_iload_n rfl rfl rfl ?_
            refine q_iconst rfl rfl ?_
            refine q_imul rfl rfl (q_tn (z := 0) rfl ?_)
            refine q_iload rfl rfl rfl ?_
            refine q_iadd rfl rfl (q_tn (z := 0) rfl ?_)
            refine q_iload rfl rfl rfl ?_
            refine q_iast rfl rfl (by decide) (FW_21 S hW) (by decide) ?_
            refine q_icc6 (z := 1) rfl rfl rfl rfl rfl ?_
            refine q_goto rfl ?_
            refine q_iload rfl rfl rfl ?_
            refine q_iconst rfl rfl ?_
            refine q_icge rfl rfl (fun c423 => absurd c423 (by decide)) (fun c423 => ?_)
            refine q_iconst rfl rfl ?_
            refine q_ist7 rfl rfl rfl rfl ?_
            refine q_iload rfl rfl rfl ?_
            refine q_iload rfl rfl rfl ?_
            refine q_iushr rfl rfl (q_tn (z := 0) rfl ?_)
            refine q_iconst rfl rfl ?_
            refine q_iand rfl rfl (q_tn (z := 0) rfl ?_)
            refine q_ifeq rfl rfl (fun c424 => ?_) (fun c424 => absurd (by decide) c424)
            refine q_aload_n rfl rfl rfl ?_
            refine q_getf rfl rfl (by decide) rfl rfl ?_
            refine q_iload_n rfl rfl rfl ?_
            refine q_iconst rfl rfl ?_
            refine q_imul rfl rfl (q_tn (z := 0) rfl ?_)
            refine q_iload rfl rfl rfl ?_
            refine q_iadd rfl rfl (q_tn (z := 1) rfl ?_)
            refine q_iload rfl rfl rfl ?_
            refine q_iast rfl rfl (by decide) rfl (by decide) ?_
            refine q_icc6 (z := 2) rfl rfl rfl rfl rfl ?_
            refine q_goto rfl ?_
            refine q_iload rfl rfl rfl ?_
            refine q_iconst rfl rfl ?_
            refine q_icge rfl rfl (fun c425 => absurd c425 (by decide)) (fun c425 => ?_)
            refine q_iconst rfl rfl ?_
            refine q_ist7 rfl rfl rfl rfl ?_
            refine q_iload rfl rfl rfl ?_
            refine q_iload rfl rfl rfl ?_
            refine q_iushr rfl rfl (q_tn (z := 0) rfl ?_)
            refine q_iconst rfl rfl ?_
            refine q_iand rfl rfl (q_tn (z := 0) rfl ?_)
            refine q_ifeq rfl rfl (fun c426 => ?_) (fun c426 => absurd (by decide) c426)
            refine q_aload_n rfl rfl rfl ?_
            refine q_getf rfl rfl (by decide) rfl rfl ?_
            refine q_iload_n rfl rfl rfl ?_
            refine q_iconst rfl rfl ?_
            refine q_imul rfl rfl (q_tn (z := 0) rfl ?_)
            refine q_iload rfl rfl rfl ?_
            refine q_iadd rfl rfl (q_tn (z := 2) rfl ?_)
            refine q_iload rfl rfl rfl ?_
            refine q_iast rfl rfl (by decide) rfl (by decide) ?_
            refine q_icc6 (z := 3) rfl rfl rfl rfl rfl ?_
            refine q_goto rfl ?_
            refine q_iload rfl rfl rfl ?_
            refine q_iconst rfl rfl ?_
            refine q_icge rfl rfl (fun c427 => ?_) (fun c427 => absurd (by decide) c427)
            refine q_aload_n rfl rfl rfl ?_
            refine q_getf rfl rfl (by decide) rfl rfl ?_
            refine q_iload_n rfl rfl rfl ?_
            refine q_iload rfl rfl rfl ?_
            refine q_ifeq rfl rfl (fun c428 => ?_) (fun c428 => absurd (by decide) c428)
            refine q_aload_n rfl rfl rfl ?_
            refine q_lload_n rfl rfl rfl ?_
            refine q_nV1 rfl rfl (Or.inl rfl) rfl rfl rfl (by decide) rfl ⟨rfl, rfl⟩ rfl ?_
            change PQ _ _ _ mm_X6_isEnd 0 [.ref 7, .long 0, pm_un, pm_un] [] _ _ 0 0 _
            refine q_iconst rfl rfl ?_
            refine q_ist3n rfl rfl rfl rfl ?_
            refine q_iload_n rfl rfl rfl ?_
            refine q_aload_n rfl rfl rfl ?_
            refine q_getf rfl rfl (by decide) rfl rfl ?_
            refine q_getf rfl rfl (by decide) (FW_1 S hW) rfl ?_
            refine q_icge rfl rfl (fun c429 => absurd c429 (by decide)) (fun c429 => ?_)
            refine q_aload_n rfl rfl rfl ?_
            refine q_getf rfl rfl (by decide) rfl rfl ?_
            refine q_iload_n rfl rfl rfl ?_
            refine q_lload_n rfl rfl rfl ?_
            refine q_iload_n rfl rfl rfl ?_
            refine q_nS2 rfl rfl (Or.inl rfl) rfl rfl ⟨rfl, rfl⟩ rfl ?_
            change PQ _ _ _ mm_X0_position 0 [.long 0, pm_un, .int 0] [] _ _ 0 0 _
            refine q_lload_n rfl rfl rfl ?_
            refine q_bipush rfl rfl ?_
            refine q_iload_n rfl rfl rfl ?_
            refine q_imul rfl rfl (q_tn (z := 0) rfl ?_)
            refine q_lushr rfl rfl (q_tnl (z := 0) rfl ?_)
            refine q_l2i rfl rfl (q_tn (z := 0) rfl ?_)
            refine q_bipush rfl rfl ?_
            refine q_iand rfl rfl (q_tn (z := 0) rfl ?_)
            refine q_iret rfl rfl trivial ?_
            refine ⟨_, rfl, ?_⟩
            refine q_nV2 rfl rfl (Or.inl rfl) rfl rfl rfl (by decide) (FW_1 S hW) ⟨rfl, rfl⟩ rfl ?_
            change PQ _ _ _ mm_X8_cellOf 0 [.ref 1, .int 0, .int 0, pm_un] [] _ _ 0 0 _
            refine q_iload_n rfl rfl rfl ?_
            refine q_iflt rfl rfl (fun c430 => absurd c430 (by decide)) (fun c430 => ?_)
            refine q_iload_n rfl rfl rfl ?_
            refine q_aload_n rfl rfl rfl ?_
            refine q_getf rfl rfl (by decide) (FW_1 S hW) rfl ?_
            refine q_icge rfl rfl (fun c431 => absurd c431 (by decide)) (fun c431 => ?_)
            refine q_iload_n rfl rfl rfl ?_
            refine q_iflt rfl rfl (fun c432 => absurd c432 (by decide)) (fun c432 => ?_)
            refine q_iload_n rfl rfl rfl ?_
            refine q_aload_n rfl rfl rfl ?_
            refine q_getf rfl rfl (by decide) (FW_1 S hW) rfl ?_
            refine q_iload_n rfl rfl rfl ?_
            refine q_iald rfl rfl (by decide) (FW_3 S hW) (by decide) (q_tn (z := 0) rfl ?_)
            refine q_icge rfl rfl (fun c433 => ?_) (fun c433 => absurd (by decide) c433)
            refine q_iconst rfl rfl ?_
            refine q_ist3n rfl rfl rfl rfl ?_
            refine q_iload_n rfl rfl rfl ?_
            refine q_ifeq rfl rfl (fun c434 => ?_) (fun c434 => absurd (by decide) c434)
            refine q_iconst rfl rfl ?_
            refine q_iret rfl rfl trivial ?_
            refine ⟨_, rfl, ?_⟩
            refine q_iflt rfl rfl (fun c435 => ?_) (fun c435 => absurd (by decide) c435)
            refine q_icc3 (z := 1) rfl rfl rfl rfl rfl ?_
            refine q_goto rfl ?_
            refine q_iload_n rfl rfl rfl ?_
            refine q_aload_n rfl rfl rfl ?_
            refine q_getf rfl rfl (by decide) rfl rfl ?_
            refine q_getf rfl rfl (by decide) (FW_1 S hW) rfl ?_
            refine q_icge rfl rfl (fun c436 => ?_) (fun c436 => absurd (by decide) c436)
            refine q_iconst rfl rfl ?_
            refine q_iret rfl rfl rfl ?_
            refine ⟨_, rfl, ?_⟩
            refine q_ifeq rfl rfl (fun c437 => absurd c437 (by decide)) (fun c437 => ?_)
            refine q_iconst rfl rfl ?_
            refine q_goto rfl ?_
            refine q_iast rfl rfl (by decide) (FW_20 S hW) (by decide) ?_
            refine q_aload_n rfl rfl rfl ?_
            refine q_dupr rfl rfl ?_
            refine q_getf rfl rfl (by decide) rfl rfl ?_
            refine q_aload_n rfl rfl rfl ?_
            refine q_getf rfl rfl (by decide) rfl rfl ?_
            refine q_iload_n rfl rfl rfl ?_
            refine q_iald rfl rfl (by decide) rfl (by decide) (q_tn (z := 1) rfl ?_)
            refine q_iconst rfl rfl ?_
            refine q_iceq rfl rfl (fun c438 => absurd c438 (by decide)) (fun c438 => ?_)
            refine q_aload_n rfl rfl rfl ?_
            refine q_lload_n rfl rfl rfl ?_
            refine q_nV1 rfl rfl (Or.inl rfl) rfl rfl rfl (by decide) rfl ⟨rfl, rfl⟩ rfl ?_
            change PQ _ _ _ mm_X6_someFailed 0 [.ref 7, .long 0, pm_un, pm_un] [] _ _ 0 0 _
            refine q_iconst rfl rfl ?_
            refine q_ist3n rfl rfl rfl rfl ?_
            refine q_iload_n rfl rfl rfl ?_
            refine q_aload_n rfl rfl rfl ?_
            refine q_getf rfl rfl (by decide) rfl rfl ?_
            refine q_getf rfl rfl (by decide) (FW_1 S hW) rfl ?_
            refine q_icge rfl rfl (fun c439 => absurd c439 (by decide)) (fun c439 => ?_)
            refine q_lload_n rfl rfl rfl ?_
            refine q_iload_n rfl rfl rfl ?_
            refine q_nS2 rfl rfl (Or.inl rfl) rfl rfl ⟨rfl, rfl⟩ rfl ?_
            change PQ _ _ _ mm_X0_position 0 [.long 0, pm_un, .int 0] [] _ _ 0 0 _
            refine q_lload_n rfl rfl rfl ?_
            refine q_bipush rfl rfl ?_
            refine q_iload_n rfl rfl rfl ?_
            refine q_imul rfl rfl (q_tn (z := 0) rfl ?_)
            refine q_lushr rfl rfl (q_tnl (z := 0) rfl ?_)
            refine q_l2i rfl rfl (q_tn (z := 0) rfl ?_)
            refine q_bipush rfl rfl ?_
            refine q_iand rfl rfl (q_tn (z := 0) rfl ?_)
            refine q_iret rfl rfl trivial ?_
            refine ⟨_, rfl, ?_⟩
            refine q_bipush rfl rfl ?_
            refine q_icne rfl rfl (fun c440 => absurd c440 (by decide)) (fun c440 => ?_)
            refine q_icc3 (z := 1) rfl rfl rfl rfl rfl ?_
            refine q_goto rfl ?_
            refine q_iload_n rfl rfl rfl ?_
            refine q_aload_n rfl rfl rfl ?_
            refine q_getf rfl rfl (by decide) rfl rfl ?_
            refine q_getf rfl rfl (by decide) (FW_1 S hW) rfl ?_
            refine q_icge rfl rfl (fun c441 => ?_) (fun c441 => absurd (by decide) c441)
            refine q_iconst rfl rfl ?_
            refine q_iret rfl rfl rfl ?_
            refine ⟨_, rfl, ?_⟩
            refine q_ifeq rfl rfl (fun c442 => ?_) (fun c442 => absurd (by decide) c442)
            refine q_iconst rfl rfl ?_
            refine q_ior rfl rfl (q_tn (z := 0) rfl ?_)
            refine q_putf rfl rfl (by decide) rfl (by decide) rfl rfl ?_
            refine q_aload_n rfl rfl rfl ?_
            refine q_getf rfl rfl (by decide) rfl rfl ?_
            refine q_iload_n rfl rfl rfl ?_
            refine q_iald rfl rfl (by decide) rfl (by decide) (q_tn (z := 1) rfl ?_)
            refine q_iconst rfl rfl ?_
            refine q_icne rfl rfl (fun c443 => ?_) (fun c443 => absurd (by decide) c443)
            refine q_aload_n rfl rfl rfl ?_
            refine q_lload_n rfl rfl rfl ?_
            refine q_nV1v rfl rfl (Or.inl rfl) rfl rfl rfl (by decide) rfl ⟨rfl, rfl⟩ rfl ?_
            change PQ _ _ _ mm_X7_noteEnd 0 [.ref 16, .long 0, pm_un, pm_un] [] _ _ 0 0 _
            refine q_iconst rfl rfl ?_
            refine q_ist3n rfl rfl rfl rfl ?_
            refine q_iload_n rfl rfl rfl ?_
            refine q_iconst rfl rfl ?_
            refine q_icge rfl rfl (fun c444 => absurd c444 (by decide)) (fun c444 => ?_)
            refine q_aload_n rfl rfl rfl ?_
            refine q_dupr rfl rfl ?_
            refine q_getf rfl rfl (by decide) rfl rfl ?_
            refine q_lconst rfl rfl ?_
            refine q_bipush rfl rfl ?_
            refine q_iload_n rfl rfl rfl ?_
            refine q_imul rfl rfl (q_tn (z := 0) rfl ?_)
            refine q_lload_n rfl rfl rfl ?_
            refine q_iload_n rfl rfl rfl ?_
            refine q_nS2 rfl rfl (Or.inl rfl) rfl rfl ⟨rfl, rfl⟩ rfl ?_
            change PQ _ _ _ mm_X0_place 0 [.long 0, pm_un, .int 0] [] _ _ 0 0 _
            refine q_lload_n rfl rfl rfl ?_
            refine q_bipush rfl rfl ?_
            refine q_iconst rfl rfl ?_
            refine q_iload_n rfl rfl rfl ?_
            refine q_imul rfl rfl (q_tn (z := 0) rfl ?_)
            refine q_iadd rfl rfl (q_tn (z := 36) rfl ?_)
            refine q_lushr rfl rfl (q_tnl (z := 0) rfl ?_)
            refine q_l2i rfl rfl (q_tn (z := 0) rfl ?_)
            refine q_bipush rfl rfl ?_
            refine q_iand rfl rfl (q_tn (z := 0) rfl ?_)
            refine q_iret rfl rfl trivial ?_
            refine ⟨_, rfl, ?_⟩
            refine q_iadd rfl rfl (q_tn (z := 0) rfl ?_)
            refine q_lshl rfl rfl (q_tnl (z := 1) rfl ?_)
            refine q_lor rfl rfl (q_tnl (z := 1) rfl ?_)
            refine q_putf rfl rfl (by decide) rfl (by decide) rfl trivial ?_
            refine q_icc3 (z := 1) rfl rfl rfl rfl rfl ?_
            refine q_goto rfl ?_
            refine q_iload_n rfl rfl rfl ?_
            refine q_iconst rfl rfl ?_
            refine q_icge rfl rfl (fun c445 => absurd c445 (by decide)) (fun c445 => ?_)
            refine q_aload_n rfl rfl rfl ?_
            refine q_dupr rfl rfl ?_
            refine q_getf rfl rfl (by decide) rfl rfl ?_
            refine q_lconst rfl rfl ?_
            refine q_bipush rfl rfl ?_
            refine q_iload_n rfl rfl rfl ?_
            refine q_imul rfl rfl (q_tn (z := 10) rfl ?_)
            refine q_lload_n rfl rfl rfl ?_
            refine q_iload_n rfl rfl rfl ?_
            refine q_nS2 rfl rfl (Or.inl rfl) rfl rfl ⟨rfl, rfl⟩ rfl ?_
            change PQ _ _ _ mm_X0_place 0 [.long 0, pm_un, .int 1] [] _ _ 0 0 _
            refine q_lload_n rfl rfl rfl ?_
            refine q_bipush rfl rfl ?_
            refine q_iconst rfl rfl ?_
            refine q_iload_n rfl rfl rfl ?_
            refine q_imul rfl rfl (q_tn (z := 4) rfl ?_)
            refine q_iadd rfl rfl (q_tn (z := 40) rfl ?_)
            refine q_lushr rfl rfl (q_tnl (z := 0) rfl ?_)
            refine q_l2i rfl rfl (q_tn (z := 0) rfl ?_)
            refine q_bipush rfl rfl ?_
            refine q_iand rfl rfl (q_tn (z := 0) rfl ?_)
            refine q_iret rfl rfl trivial ?_
            refine ⟨_, rfl, ?_⟩
            refine q_iadd rfl rfl (q_tn (z := 10) rfl ?_)
            refine q_lshl rfl rfl (q_tnl (z := 1024) rfl ?_)
            refine q_lor rfl rfl (q_tnl (z := 1025) rfl ?_)
            refine q_putf rfl rfl (by decide) rfl (by decide) rfl trivial ?_
            refine q_icc3 (z := 2) rfl rfl rfl rfl rfl ?_
            refine q_goto rfl ?_
            refine q_iload_n rfl rfl rfl ?_
            refine q_iconst rfl rfl ?_
            refine q_icge rfl rfl (fun c446 => absurd c446 (by decide)) (fun c446 => ?_)
            refine q_aload_n rfl rfl rfl ?_
            refine q_dupr rfl rfl ?_
            refine q_getf rfl rfl (by decide) rfl rfl ?_
            refine q_lconst rfl rfl ?_
            refine q_bipush rfl rfl ?_
            refine q_iload_n rfl rfl rfl ?_
            refine q_imul rfl rfl (q_tn (z := 20) rfl ?_)
            refine q_lload_n rfl rfl rfl ?_
            refine q_iload_n rfl rfl rfl ?_
            refine q_nS2 rfl rfl (Or.inl rfl) rfl rfl ⟨rfl, rfl⟩ rfl ?_
            change PQ _ _ _ mm_X0_place 0 [.long 0, pm_un, .int 2] [] _ _ 0 0 _
            refine q_lload_n rfl rfl rfl ?_
            refine q_bipush rfl rfl ?_
            refine q_iconst rfl rfl ?_
            refine q_iload_n rfl rfl rfl ?_
            refine q_imul rfl rfl (q_tn (z := 8) rfl ?_)
            refine q_iadd rfl rfl (q_tn (z := 44) rfl ?_)
            refine q_lushr rfl rfl (q_tnl (z := 0) rfl ?_)
            refine q_l2i rfl rfl (q_tn (z := 0) rfl ?_)
            refine q_bipush rfl rfl ?_
            refine q_iand rfl rfl (q_tn (z := 0) rfl ?_)
            refine q_iret rfl rfl trivial ?_
            refine ⟨_, rfl, ?_⟩
            refine q_iadd rfl rfl (q_tn (z := 20) rfl ?_)
            refine q_lshl rfl rfl (q_tnl (z := 1048576) rfl ?_)
            refine q_lor rfl rfl (q_tnl (z := 1049601) rfl ?_)
            refine q_putf rfl rfl (by decide) rfl (by decide) rfl trivial ?_
            refine q_icc3 (z := 3) rfl rfl rfl rfl rfl ?_
            refine q_goto rfl ?_
            refine q_iload_n rfl rfl rfl ?_
            refine q_iconst rfl rfl ?_
            refine q_icge rfl rfl (fun c447 => absurd c447 (by decide)) (fun c447 => ?_)
            refine q_aload_n rfl rfl rfl ?_
            refine q_dupr rfl rfl ?_
            refine q_getf rfl rfl (by decide) rfl rfl ?_
            refine q_lconst rfl rfl ?_
            refine q_bipush rfl rfl ?_
            refine q_iload_n rfl rfl rfl ?_
            refine q_imul rfl rfl (q_tn (z := 30) rfl ?_)
            refine q_lload_n rfl rfl rfl ?_
            refine q_iload_n rfl rfl rfl ?_
            refine q_nS2 rfl rfl (Or.inl rfl) rfl rfl ⟨rfl, rfl⟩ rfl ?_
            change PQ _ _ _ mm_X0_place 0 [.long 0, pm_un, .int 3] [] _ _ 0 0 _
            refine q_lload_n rfl rfl rfl ?_
            refine q_bipush rfl rfl ?_
            refine q_iconst rfl rfl ?_
            refine q_iload_n rfl rfl rfl ?_
            refine q_imul rfl rfl (q_tn (z := 12) rfl ?_)
            refine q_iadd rfl rfl (q_tn (z := 48) rfl ?_)
            refine q_lushr rfl rfl (q_tnl (z := 0) rfl ?_)
            refine q_l2i rfl rfl (q_tn (z := 0) rfl ?_)
            refine q_bipush rfl rfl ?_
            refine q_iand rfl rfl (q_tn (z := 0) rfl ?_)
            refine q_iret rfl rfl trivial ?_
            refine ⟨_, rfl, ?_⟩
            refine q_iadd rfl rfl (q_tn (z := 30) rfl ?_)
            refine q_lshl rfl rfl (q_tnl (z := 1073741824) rfl ?_)
            refine q_lor rfl rfl (q_tnl (z := 1074791425) rfl ?_)
            refine q_putf rfl rfl (by decide) rfl (by decide) rfl trivial ?_
            refine q_icc3 (z := 4) rfl rfl rfl rfl rfl ?_
            refine q_goto rfl ?_
            refine q_iload_n rfl rfl rfl ?_
            refine q_iconst rfl rfl ?_
            refine q_icge rfl rfl (fun c448 => ?_) (fun c448 => absurd (by decide) c448)
            refine q_ret rfl rfl ?_
            refine ⟨rfl, ?_⟩
            refine q_ret rfl rfl ?_
            refine ⟨rfl, ?_⟩
            refine q_aload_n rfl rfl rfl ?_
            refine q_getf rfl rfl (by decide) rfl rfl ?_
            refine q_ifne rfl rfl (fun c449 => ?_) (fun c449 => absurd (by decide) c449)
            refine q_iload_n rfl rfl rfl ?_
            refine q_ifeq rfl rfl (fun c450 => ?_) (fun c450 => absurd (by decide) c450)
            refine q_icc3 (z := 1) rfl rfl rfl rfl rfl ?_
            refine q_goto rfl ?_
            refine q_iload_n rfl rfl rfl ?_
            refine q_sipush rfl rfl ?_
            refine q_icge rfl rfl (fun c451 => absurd c451 (by decide)) (fun c451 => ?_)
            refine q_iload_n rfl rfl rfl ?_
            refine q_aload_n rfl rfl rfl ?_
            refine q_getf rfl rfl (by decide) rfl rfl ?_
            refine q_icge rfl rfl (fun c452 => ?_) (fun c452 => absurd (by decide) c452)
            refine q_ret rfl rfl ?_
            refine ⟨rfl, ?_⟩
            refine q_aload_n rfl rfl rfl ?_
            refine q_getf rfl rfl (by decide) (FW_0 S hW) rfl ?_
            refine q_iconst rfl rfl ?_
            refine q_putf rfl rfl (by decide) rfl (Nat.lt_of_lt_of_le (Nat.lt_succ_self _) (Nat.le_of_ble_eq_true rfl)) rfl trivial ?_
            refine q_aload_n rfl rfl rfl ?_
            refine q_getf rfl rfl (by decide) (FW_0 S hW) rfl ?_
            refine q_iload_n rfl rfl rfl ?_
            refine q_aload_n rfl rfl rfl ?_
            refine q_getf rfl rfl (by decide) rfl rfl ?_
            refine q_ifeq rfl rfl (fun c453 => ?_) (fun c453 => absurd (by decide) c453)
            refine q_aload_n rfl rfl rfl ?_
            refine q_getf rfl rfl (by decide) rfl rfl ?_
            refine q_iast rfl rfl (by decide) (FW_44 S hW) (by decide) ?_
            refine q_aload_n rfl rfl rfl ?_
            refine q_getf rfl rfl (by decide) (FW_0 S hW) rfl ?_
            refine q_iload_n rfl rfl rfl ?_
            refine q_aload_n rfl rfl rfl ?_
            refine q_getf rfl rfl (by decide) rfl rfl ?_
            refine q_last rfl rfl (by decide) (FW_45 S hW) (by decide) ?_
            refine q_aload_n rfl rfl rfl ?_
            refine q_getf rfl rfl (by decide) (FW_0 S hW) rfl ?_
            refine q_iload_n rfl rfl rfl ?_
            refine q_iald rfl rfl (by decide) rfl (by decide) (q_tn (z := 1) rfl ?_)
            refine q_iret rfl rfl trivial ?_
            refine ⟨_, rfl, ?_⟩
            refine q_goto rfl ?_
            refine q_iret rfl rfl trivial ?_
            refine ⟨_, rfl, ?_⟩
            refine q_aload_n rfl rfl rfl ?_
            refine q_aload_nF rfl rfl rfl ?_
            refine q_iload rfl rfl rfl ?_
            refine q_iconst rfl rfl ?_
            refine q_iadd rfl rfl (q_tn (z := 1) rfl ?_)
            refine q_ialdX (x := 2) rfl rfl rfl hx1 ?_
            refine q_nV1 rfl rfl (Or.inl rfl) rfl rfl rfl (by decide) (FW_46 S hW) ⟨rfl, rfl⟩ rfl ?_
            change PQ _ _ _ mm_X12_states 0 [.ref 46, .int 2] [] _ _ 0 0 _
            refine q_aload_n rfl rfl rfl ?_
            refine q_iload_n rfl rfl rfl ?_
            refine q_iconst rfl rfl ?_
            refine q_iconst rfl rfl ?_
            refine q_nV3 rfl rfl (Or.inl rfl) rfl rfl rfl (by decide) (FW_46 S hW) ⟨rfl, rfl⟩ rfl ?_
            change PQ _ _ _ mm_X12_in 0 [.ref 46, .int 2, .int 0, .int 4] [] _ _ 0 0 _
            refine q_iload_n rfl rfl rfl ?_
            refine q_iload_n rfl rfl rfl ?_
            refine q_iclt rfl rfl (fun c454 => absurd c454 (by decide)) (fun c454 => ?_)
            refine q_iload_n rfl rfl rfl ?_
            refine q_iload_n rfl rfl rfl ?_
            refine q_icgt rfl rfl (fun c455 => absurd c455 (by decide)) (fun c455 => ?_)
            refine q_iconst rfl rfl ?_
            refine q_goto rfl ?_
            refine q_iret rfl rfl rfl ?_
            refine ⟨_, rfl, ?_⟩
            refine q_ifne rfl rfl (fun c456 => absurd c456 (by decide)) (fun c456 => ?_)
            refine q_aload_n rfl rfl rfl ?_
            refine q_iload_n rfl rfl rfl ?_
            refine q_nV1 rfl rfl (Or.inl rfl) rfl rfl rfl (by decide) (FW_46 S hW) ⟨rfl, rfl⟩ rfl ?_
            change PQ _ _ _ mm_X12_isSpent 0 [.ref 46, .int 2, pm_un, pm_un, pm_un] [] _ _ 0 0 _
            refine q_iload_n rfl rfl rfl ?_
            refine q_ifne rfl rfl (fun c457 => absurd c457 (by decide)) (fun c457 => ?_)
            refine q_iconst rfl rfl ?_
            refine q_ist2n rfl rfl rfl rfl ?_
            refine q_aload_n rfl rfl rfl ?_
            refine q_iconst rfl rfl ?_
            refine q_putf rfl rfl (by decide) (FW_46 S hW) (by decide) rfl trivial ?_
            refine q_aload_n rfl rfl rfl ?_
            refine q_getf rfl rfl (by decide) rfl rfl ?_
            refine q_iload_n rfl rfl rfl ?_
            refine q_iald rfl rfl (by decide) (FW_62 S hW) (by decide) (q_tn (z := 0) rfl ?_)
            refine q_ifeq rfl rfl (fun c458 => ?_) (fun c458 => absurd (by decide) c458)
            refine q_aload_n rfl rfl rfl ?_
            refine q_getf rfl rfl (by decide) rfl rfl ?_
            refine q_iload_n rfl rfl rfl ?_
            refine q_aload_n rfl rfl rfl ?_
            refine q_iload_n rfl rfl rfl ?_
            refine q_iload_n rfl rfl rfl ?_
            refine q_nV2 rfl rfl (Or.inl rfl) rfl rfl rfl (by decide) rfl ⟨rfl, rfl⟩ rfl ?_
            change PQ _ _ _ mm_X12_explore 0 [.ref 46, .int 1, .int 2, pm_un, pm_un, pm_un, pm_un, pm_un] [] _ _ 0 0 _
            refine q_iconst rfl rfl ?_
            refine q_ist3n rfl rfl rfl rfl ?_
            refine l_net (R := 1) (by decide) rfl (by decide) rfl rfl (FW_61 S hW) ?_
            refine q_aload_n rfl rfl rfl ?_
            refine q_getf rfl rfl (by decide) rfl rfl ?_
            refine q_iload_n rfl rfl rfl ?_
            refine q_iconst rfl rfl ?_
            refine q_iast rfl rfl (by decide) (FW_60 S hW) (by decide) ?_
            refine q_aload_n rfl rfl rfl ?_
            refine q_nV0v rfl rfl (Or.inl rfl) rfl rfl rfl (by decide) rfl ⟨rfl, rfl⟩ rfl ?_
            change PQ _ _ _ mm_X12_firstState 0 [.ref 46, pm_un] [] _ _ 0 0 _
            refine q_iconst rfl rfl ?_
            refine q_ist1n rfl rfl rfl rfl ?_
            refine q_iload_n rfl rfl rfl ?_
            refine q_bipush rfl rfl ?_
            refine q_icge rfl rfl (fun c459 => absurd c459 (by decide)) (fun c459 => ?_)
            refine q_aload_n rfl rfl rfl ?_
            refine q_getf rfl rfl (by decide) rfl rfl ?_
            refine q_iload_n rfl rfl rfl ?_
            refine q_iconst rfl rfl ?_
            refine q_iast rfl rfl (by decide) (FW_52 S hW) (by decide) ?_
            refine q_icc1 (z := 1) rfl rfl rfl rfl rfl ?_
            refine q_goto rfl ?_
            refine q_iload_n rfl rfl rfl ?_
            refine q_bipush rfl rfl ?_
            refine q_icge rfl rfl (fun c460 => absurd c460 (by decide)) (fun c460 => ?_)
            refine q_aload_n rfl rfl rfl ?_
            refine q_getf rfl rfl (by decide) rfl rfl ?_
            refine q_iload_n rfl rfl rfl ?_
            refine q_iconst rfl rfl ?_
            refine q_iast rfl rfl (by decide) rfl (by decide) ?_
            refine q_icc1 (z := 2) rfl rfl rfl rfl rfl ?_
            refine q_goto rfl ?_
            refine q_iload_n rfl rfl rfl ?_
            refine q_bipush rfl rfl ?_
            refine q_icge rfl rfl (fun c461 => absurd c461 (by decide)) (fun c461 => ?_)
            refine q_aload_n rfl rfl rfl ?_
            refine q_getf rfl rfl (by decide) rfl rfl ?_
            refine q_iload_n rfl rfl rfl ?_
            refine q_iconst rfl rfl ?_
            refine q_iast rfl rfl (by decide) rfl (by decide) ?_
            refine q_icc1 (z := 3) rfl rfl rfl rfl rfl ?_
            refine q_goto rfl ?_
            refine q_iload_n rfl rfl rfl ?_
            refine q_bipush rfl rfl ?_
            refine q_icge rfl rfl (fun c462 => absurd c462 (by decide)) (fun c462 => ?_)
            refine q_aload_n rfl rfl rfl ?_
            refine q_getf rfl rfl (by decide) rfl rfl ?_
            refine q_iload_n rfl rfl rfl ?_
            refine q_iconst rfl rfl ?_
            refine q_iast rfl rfl (by decide) rfl (by decide) ?_
            refine q_icc1 (z := 4) rfl rfl rfl rfl rfl ?_
            refine q_goto rfl ?_
            refine q_iload_n rfl rfl rfl ?_
            refine q_bipush rfl rfl ?_
            refine q_icge rfl rfl (fun c463 => absurd c463 (by decide)) (fun c463 => ?_)
            refine q_aload_n rfl rfl rfl ?_
            refine q_getf rfl rfl (by decide) rfl rfl ?_
            refine q_iload_n rfl rfl rfl ?_
            refine q_iconst rfl rfl ?_
            refine q_iast rfl rfl (by decide) rfl (by decide) ?_
            refine q_icc1 (z := 5) rfl rfl rfl rfl rfl ?_
            refine q_goto rfl ?_
            refine q_iload_n rfl rfl rfl ?_
            refine q_bipush rfl rfl ?_
            refine q_icge rfl rfl (fun c464 => absurd c464 (by decide)) (fun c464 => ?_)
            refine q_aload_n rfl rfl rfl ?_
            refine q_getf rfl rfl (by decide) rfl rfl ?_
            refine q_iload_n rfl rfl rfl ?_
            refine q_iconst rfl rfl ?_
            refine q_iast rfl rfl (by decide) rfl (by decide) ?_
            refine q_icc1 (z := 6) rfl rfl rfl rfl rfl ?_
            refine q_goto rfl ?_
            refine q_iload_n rfl rfl rfl ?_
            refine q_bipush rfl rfl ?_
            refine q_icge rfl rfl (fun c465 => absurd c465 (by decide)) (fun c465 => ?_)
            refine q_aload_n rfl rfl rfl ?_
            refine q_getf rfl rfl (by decide) rfl rfl ?_
            refine q_iload_n rfl rfl rfl ?_
            refine q_iconst rfl rfl ?_
            refine q_iast rfl rfl (by decide) rfl (by decide) ?_
            refine q_icc1 (z := 7) rfl rfl rfl rfl rfl ?_
            refine q_goto rfl ?_
            refine q_iload_n rfl rfl rfl ?_
            refine q_bipush rfl rfl ?_
            refine q_icge rfl rfl (fun c466 => absurd c466 (by decide)) (fun c466 => ?_)
            refine q_aload_n rfl rfl rfl ?_
            refine q_getf rfl rfl (by decide) rfl rfl ?_
            refine q_iload_n rfl rfl rfl ?_
            refine q_iconst rfl rfl ?_
            refine q_iast rfl rfl (by decide) rfl (by decide) ?_
            refine q_icc1 (z := 8) rfl rfl rfl rfl rfl ?_
            refine q_goto rfl ?_
            refine q_iload_n rfl rfl rfl ?_
            refine q_bipush rfl rfl ?_
            refine q_icge rfl rfl (fun c467 => absurd c467 (by decide)) (fun c467 => ?_)
            refine q_aload_n rfl rfl rfl ?_
            refine q_getf rfl rfl (by decide) rfl rfl ?_
            refine q_iload_n rfl rfl rfl ?_
            refine q_iconst rfl rfl ?_
            refine q_iast rfl rfl (by decide) rfl (by decide) ?_
            refine q_icc1 (z := 9) rfl rfl rfl rfl rfl ?_
            refine q_goto rfl ?_
            refine q_iload_n rfl rfl rfl ?_
            refine q_bipush rfl rfl ?_
            refine q_icge rfl rfl (fun c468 => absurd c468 (by decide)) (fun c468 => ?_)
            refine q_aload_n rfl rfl rfl ?_
            refine q_getf rfl rfl (by decide) rfl rfl ?_
            refine q_iload_n rfl rfl rfl ?_
            refine q_iconst rfl rfl ?_
            refine q_iast rfl rfl (by decide) rfl (by decide) ?_
            refine q_icc1 (z := 10) rfl rfl rfl rfl rfl ?_
            refine q_goto rfl ?_
            refine q_iload_n rfl rfl rfl ?_
            refine q_bipush rfl rfl ?_
            refine q_icge rfl rfl (fun c469 => absurd c469 (by decide)) (fun c469 => ?_)
            refine q_aload_n rfl rfl rfl ?_
            refine q_getf rfl rfl (by decide) rfl rfl ?_
            refine q_iload_n rfl rfl rfl ?_
            refine q_iconst rfl rfl ?_
            refine q_iast rfl rfl (by decide) rfl (by decide) ?_
            refine q_icc1 (z := 11) rfl rfl rfl rfl rfl ?_
            refine q_goto rfl ?_
            refine q_iload_n rfl rfl rfl ?_
            refine q_bipush rfl rfl ?_
            refine q_icge rfl rfl (fun c470 => absurd c470 (by decide)) (fun c470 => ?_)
            refine q_aload_n rfl rfl rfl ?_
            refine q_getf rfl rfl (by decide) rfl rfl ?_
            refine q_iload_n rfl rfl rfl ?_
            refine q_iconst rfl rfl ?_
            refine q_iast rfl rfl (by decide) rfl (by decide) ?_
            refine q_icc1 (z := 12) rfl rfl rfl rfl rfl ?_
            refine q_goto rfl ?_
            refine q_iload_n rfl rfl rfl ?_
            refine q_bipush rfl rfl ?_
            refine q_icge rfl rfl (fun c471 => absurd c471 (by decide)) (fun c471 => ?_)
            refine q_aload_n rfl rfl rfl ?_
            refine q_getf rfl rfl (by decide) rfl rfl ?_
            refine q_iload_n rfl rfl rfl ?_
            refine q_iconst rfl rfl ?_
            refine q_iast rfl rfl (by decide) rfl (by decide) ?_
            refine q_icc1 (z := 13) rfl rfl rfl rfl rfl ?_
            refine q_goto rfl ?_
            refine q_iload_n rfl rfl rfl ?_
            refine q_bipush rfl rfl ?_
            refine q_icge rfl rfl (fun c472 => absurd c472 (by decide)) (fun c472 => ?_)
            refine q_aload_n rfl rfl rfl ?_
            refine q_getf rfl rfl (by decide) rfl rfl ?_
            refine q_iload_n rfl rfl rfl ?_
            refine q_iconst rfl rfl ?_
            refine q_iast rfl rfl (by decide) rfl (by decide) ?_
            refine q_icc1 (z := 14) rfl rfl rfl rfl rfl ?_
            refine q_goto rfl ?_
            refine q_iload_n rfl rfl rfl ?_
            refine q_bipush rfl rfl ?_
            refine q_icge rfl rfl (fun c473 => absurd c473 (by decide)) (fun c473 => ?_)
            refine q_aload_n rfl rfl rfl ?_
            refine q_getf rfl rfl (by decide) rfl rfl ?_
            refine q_iload_n rfl rfl rfl ?_
            refine q_iconst rfl rfl ?_
            refine q_iast rfl rfl (by decide) rfl (by decide) ?_
            refine q_icc1 (z := 15) rfl rfl rfl rfl rfl ?_
            refine q_goto rfl ?_
            refine q_iload_n rfl rfl rfl ?_
            refine q_bipush rfl rfl ?_
            refine q_icge rfl rfl (fun c474 => absurd c474 (by decide)) (fun c474 => ?_)
            refine q_aload_n rfl rfl rfl ?_
            refine q_getf rfl rfl (by decide) rfl rfl ?_
            refine q_iload_n rfl rfl rfl ?_
            refine q_iconst rfl rfl ?_
            refine q_iast rfl rfl (by decide) rfl (by decide) ?_
            refine q_icc1 (z := 16) rfl rfl rfl rfl rfl ?_
            refine q_goto rfl ?_
            refine q_iload_n rfl rfl rfl ?_
            refine q_bipush rfl rfl ?_
            refine q_icge rfl rfl (fun c475 => absurd c475 (by decide)) (fun c475 => ?_)
            refine q_aload_n rfl rfl rfl ?_
            refine q_getf rfl rfl (by decide) rfl rfl ?_
            refine q_iload_n rfl rfl rfl ?_
            refine q_iconst rfl rfl ?_
            refine q_iast rfl rfl (by decide) rfl (by decide) ?_
            refine q_icc1 (z := 17) rfl rfl rfl rfl rfl ?_
            refine q_goto rfl ?_
            refine q_iload_n rfl rfl rfl ?_
            refine q_bipush rfl rfl ?_
            refine q_icge rfl rfl (fun c476 => absurd c476 (by decide)) (fun c476 => ?_)
            refine q_aload_n rfl rfl rfl ?_
            refine q_getf rfl rfl (by decide) rfl rfl ?_
            refine q_iload_n rfl rfl rfl ?_
            refine q_iconst rfl rfl ?_
            refine q_iast rfl rfl (by decide) rfl (by decide) ?_
            refine q_icc1 (z := 18) rfl rfl rfl rfl rfl ?_
            refine q_goto rfl ?_
            refine q_iload_n rfl rfl rfl ?_
            refine q_bipush rfl rfl ?_
            refine q_icge rfl rfl (fun c477 => absurd c477 (by decide)) (fun c477 => ?_)
            refine q_aload_n rfl rfl rfl ?_
            refine q_getf rfl rfl (by decide) rfl rfl ?_
            refine q_iload_n rfl rfl rfl ?_
            refine q_iconst rfl rfl ?_
            refine q_iast rfl rfl (by decide) rfl (by decide) ?_
            refine q_icc1 (z := 19) rfl rfl rfl rfl rfl ?_
            refine q_goto rfl ?_
            refine q_iload_n rfl rfl rfl ?_
            refine q_bipush rfl rfl ?_
            refine q_icge rfl rfl (fun c478 => absurd c478 (by decide)) (fun c478 => ?_)
            refine q_aload_n rfl rfl rfl ?_
            refine q_getf rfl rfl (by decide) rfl rfl ?_
            refine q_iload_n rfl rfl rfl ?_
            refine q_iconst rfl rfl ?_
            refine q_iast rfl rfl (by decide) rfl (by decide) ?_
            refine q_icc1 (z := 20) rfl rfl rfl rfl rfl ?_
            refine q_goto rfl ?_
            refine q_iload_n rfl rfl rfl ?_
            refine q_bipush rfl rfl ?_
            refine q_icge rfl rfl (fun c479 => ?_) (fun c479 => absurd (by decide) c479)
            refine q_iconst rfl rfl ?_
            refine q_ist1n rfl rfl rfl rfl ?_
            refine q_iload_n rfl rfl rfl ?_
            refine q_aload_n rfl rfl rfl ?_
            refine q_getf rfl rfl (by decide) rfl rfl ?_
            refine q_icge rfl rfl (fun c480 => absurd c480 (by decide)) (fun c480 => ?_)
            refine q_aload_n rfl rfl rfl ?_
            refine q_getf rfl rfl (by decide) rfl rfl ?_
            refine q_iconst rfl rfl ?_
            refine q_iload_n rfl rfl rfl ?_
            refine q_imul rfl rfl (q_tn (z := 0) rfl ?_)
            refine q_aload_n rfl rfl rfl ?_
            refine q_getf rfl rfl (by decide) rfl rfl ?_
            refine q_aload_n rfl rfl rfl ?_
            refine q_getf rfl rfl (by decide) rfl rfl ?_
            refine q_iload_n rfl rfl rfl ?_
            refine q_iadd rfl rfl (q_tn (z := 0) rfl ?_)
            refine q_iald rfl rfl (by decide) (FW_47 S hW) (by decide) (q_tn (z := 0) rfl ?_)
            refine q_ifne rfl rfl (fun c481 => ?_) (fun c481 => absurd (by decide) c481)
            refine q_bipush rfl rfl ?_
            refine q_goto rfl ?_
            refine q_iast rfl rfl (by decide) rfl (by decide) ?_
            refine q_icc1 (z := 1) rfl rfl rfl rfl rfl ?_
            refine q_goto rfl ?_
            refine q_iload_n rfl rfl rfl ?_
            refine q_aload_n rfl rfl rfl ?_
            refine q_getf rfl rfl (by decide) rfl rfl ?_
            refine q_icge rfl rfl (fun c482 => ?_) (fun c482 => absurd (by decide) c482)
            refine q_iconst rfl rfl ?_
            refine q_ist1n rfl rfl rfl rfl ?_
            refine q_iload_n rfl rfl rfl ?_
            refine q_iconst rfl rfl ?_
            refine q_icge rfl rfl (fun c483 => absurd c483 (by decide)) (fun c483 => ?_)
            refine q_aload_n rfl rfl rfl ?_
            refine q_getf rfl rfl (by decide) rfl rfl ?_
            refine q_bipush rfl rfl ?_
            refine q_iload_n rfl rfl rfl ?_
            refine q_iadd rfl rfl (q_tn (z := 12) rfl ?_)
            refine q_aload_n rfl rfl rfl ?_
            refine q_getf rfl rfl (by decide) rfl rfl ?_
            refine q_iload_n rfl rfl rfl ?_
            refine q_iald rfl rfl (by decide) (FW_51 S hW) (by decide) (q_tn (z := 0) rfl ?_)
            refine q_iast rfl rfl (by decide) rfl (by decide) ?_
            refine q_icc1 (z := 1) rfl rfl rfl rfl rfl ?_
            refine q_goto rfl ?_
            refine q_iload_n rfl rfl rfl ?_
            refine q_iconst rfl rfl ?_
            refine q_icge rfl rfl (fun c484 => absurd c484 (by decide)) (fun c484 => ?_)
            refine q_aload_n rfl rfl rfl ?_
            refine q_getf rfl rfl (by decide) rfl rfl ?_
            refine q_bipush rfl rfl ?_
            refine q_iload_n rfl rfl rfl ?_
            refine q_iadd rfl rfl (q_tn (z := 13) rfl ?_)
            refine q_aload_n rfl rfl rfl ?_
            refine q_getf rfl rfl (by decide) rfl rfl ?_
            refine q_iload_n rfl rfl rfl ?_
            refine q_iald rfl rfl (by decide) (FW_51 S hW) (by decide) (q_tn (z := 0) rfl ?_)
            refine q_iast rfl rfl (by decide) rfl (by decide) ?_
            refine q_icc1 (z := 2) rfl rfl rfl rfl rfl ?_
            refine q_goto rfl ?_
            refine q_iload_n rfl rfl rfl ?_
            refine q_iconst rfl rfl ?_
            refine q_icge rfl rfl (fun c485 => absurd c485 (by decide)) (fun c485 => ?_)
            refine q_aload_n rfl rfl rfl ?_
            refine q_getf rfl rfl (by decide) rfl rfl ?_
            refine q_bipush rfl rfl ?_
            refine q_iload_n rfl rfl rfl ?_
            refine q_iadd rfl rfl (q_tn (z := 14) rfl ?_)
            refine q_aload_n rfl rfl rfl ?_
            refine q_getf rfl rfl (by decide) rfl rfl ?_
            refine q_iload_n rfl rfl rfl ?_
            refine q_iald rfl rfl (by decide) (FW_51 S hW) (by decide) (q_tn (z := 0) rfl ?_)
            refine q_iast rfl rfl (by decide) rfl (by decide) ?_
            refine q_icc1 (z := 3) rfl rfl rfl rfl rfl ?_
            refine q_goto rfl ?_
            refine q_iload_n rfl rfl rfl ?_
            refine q_iconst rfl rfl ?_
            refine q_icge rfl rfl (fun c486 => absurd c486 (by decide)) (fun c486 => ?_)
            refine q_aload_n rfl rfl rfl ?_
            refine q_getf rfl rfl (by decide) rfl rfl ?_
            refine q_bipush rfl rfl ?_
            refine q_iload_n rfl rfl rfl ?_
            refine q_iadd rfl rfl (q_tn (z := 15) rfl ?_)
            refine q_aload_n rfl rfl rfl ?_
            refine q_getf rfl rfl (by decide) rfl rfl ?_
            refine q_iload_n rfl rfl rfl ?_
            refine q_iald rfl rfl (by decide) (FW_51 S hW) (by decide) (q_tn (z := 0) rfl ?_)
            refine q_iast rfl rfl (by decide) rfl (by decide) ?_
            refine q_icc1 (z := 4) rfl rfl rfl rfl rfl ?_
            refine q_goto rfl ?_
            refine q_iload_n rfl rfl rfl ?_
            refine q_iconst rfl rfl ?_
            refine q_icge rfl rfl (fun c487 => ?_) (fun c487 => absurd (by decide) c487)
            refine q_ret rfl rfl ?_
            refine ⟨rfl, ?_⟩
            refine q_iconst rfl rfl ?_
            refine q_ist3n rfl rfl rfl rfl ?_
            refine q_iload_n rfl rfl rfl ?_
            refine q_bipush rfl rfl ?_
            refine q_icge rfl rfl (fun c488 => absurd c488 (by decide)) (fun c488 => ?_)
            refine q_aload_n rfl rfl rfl ?_
            refine q_getf rfl rfl (by decide) rfl rfl ?_
            refine q_iload_n rfl rfl rfl ?_
            refine q_aload_n rfl rfl rfl ?_
            refine q_getf rfl rfl (by decide) rfl rfl ?_
            refine q_iload_n rfl rfl rfl ?_
            refine q_iald rfl rfl (by decide) rfl (by decide) (q_tn (z := 10) rfl ?_)
            refine q_iast rfl rfl (by decide) (FW_53 S hW) (by decide) ?_
            refine q_icc3 (z := 1) rfl rfl rfl rfl rfl ?_
            refine q_goto rfl ?_
            refine q_iload_n rfl rfl rfl ?_
            refine q_bipush rfl rfl ?_
            refine q_icge rfl rfl (fun c489 => absurd c489 (by decide)) (fun c489 => ?_)
            refine q_aload_n rfl rfl rfl ?_
            refine q_getf rfl rfl (by decide) rfl rfl ?_
            refine q_iload_n rfl rfl rfl ?_
            refine q_aload_n rfl rfl rfl ?_
            refine q_getf rfl rfl (by decide) rfl rfl ?_
            refine q_iload_n rfl rfl rfl ?_
            refine q_iald rfl rfl (by decide) rfl (by decide) (q_tn (z := 0) rfl ?_)
            refine q_iast rfl rfl (by decide) rfl (by decide) ?_
            refine q_icc3 (z := 2) rfl rfl rfl rfl rfl ?_
            refine q_goto rfl ?_
            refine q_iload_n rfl rfl rfl ?_
            refine q_bipush rfl rfl ?_
            refine q_icge rfl rfl (fun c490 => absurd c490 (by decide)) (fun c490 => ?_)
            refine q_aload_n rfl rfl rfl ?_
            refine q_getf rfl rfl (by decide) rfl rfl ?_
            refine q_iload_n rfl rfl rfl ?_
            refine q_aload_n rfl rfl rfl ?_
            refine q_getf rfl rfl (by decide) rfl rfl ?_
            refine q_iload_n rfl rfl rfl ?_
            refine q_iald rfl rfl (by decide) rfl (by decide) (q_tn (z := 0) rfl ?_)
            refine q_iast rfl rfl (by decide) rfl (by decide) ?_
            refine q_icc3 (z := 3) rfl rfl rfl rfl rfl ?_
            refine q_goto rfl ?_
            refine q_iload_n rfl rfl rfl ?_
            refine q_bipush rfl rfl ?_
            refine q_icge rfl rfl (fun c491 => absurd c491 (by decide)) (fun c491 => ?_)
            refine q_aload_n rfl rfl rfl ?_
            refine q_getf rfl rfl (by decide) rfl rfl ?_
            refine q_iload_n rfl rfl rfl ?_
            refine q_aload_n rfl rfl rfl ?_
            refine q_getf rfl rfl (by decide) rfl rfl ?_
            refine q_iload_n rfl rfl rfl ?_
            refine q_iald rfl rfl (by decide) rfl (by decide) (q_tn (z := 0) rfl ?_)
            refine q_iast rfl rfl (by decide) rfl (by decide) ?_
            refine q_icc3 (z := 4) rfl rfl rfl rfl rfl ?_
            refine q_goto rfl ?_
            refine q_iload_n rfl rfl rfl ?_
            refine q_bipush rfl rfl ?_
            refine q_icge rfl rfl (fun c492 => absurd c492 (by decide)) (fun c492 => ?_)
            refine q_aload_n rfl rfl rfl ?_
            refine q_getf rfl rfl (by decide) rfl rfl ?_
            refine q_iload_n rfl rfl rfl ?_
            refine q_aload_n rfl rfl rfl ?_
            refine q_getf rfl rfl (by decide) rfl rfl ?_
            refine q_iload_n rfl rfl rfl ?_
            refine q_iald rfl rfl (by decide) rfl (by decide) (q_tn (z := 0) rfl ?_)
            refine q_iast rfl rfl (by decide) rfl (by decide) ?_
            refine q_icc3 (z := 5) rfl rfl rfl rfl rfl ?_
            refine q_goto rfl ?_
            refine q_iload_n rfl rfl rfl ?_
            refine q_bipush rfl rfl ?_
            refine q_icge rfl rfl (fun c493 => absurd c493 (by decide)) (fun c493 => ?_)
            refine q_aload_n rfl rfl rfl ?_
            refine q_getf rfl rfl (by decide) rfl rfl ?_
            refine q_iload_n rfl rfl rfl ?_
            refine q_aload_n rfl rfl rfl ?_
            refine q_getf rfl rfl (by decide) rfl rfl ?_
            refine q_iload_n rfl rfl rfl ?_
            refine q_iald rfl rfl (by decide) rfl (by decide) (q_tn (z := 0) rfl ?_)
            refine q_iast rfl rfl (by decide) rfl (by decide) ?_
            refine q_icc3 (z := 6) rfl rfl rfl rfl rfl ?_
            refine q_goto rfl ?_
            refine q_iload_n rfl rfl rfl ?_
            refine q_bipush rfl rfl ?_
            refine q_icge rfl rfl (fun c494 => absurd c494 (by decide)) (fun c494 => ?_)
            refine q_aload_n rfl rfl rfl ?_
            refine q_getf rfl rfl (by decide) rfl rfl ?_
            refine q_iload_n rfl rfl rfl ?_
            refine q_aload_n rfl rfl rfl ?_
            refine q_getf rfl rfl (by decide) rfl rfl ?_
            refine q_iload_n rfl rfl rfl ?_
            refine q_iald rfl rfl (by decide) rfl (by decide) (q_tn (z := 0) rfl ?_)
            refine q_iast rfl rfl (by decide) rfl (by decide) ?_
            refine q_icc3 (z := 7) rfl rfl rfl rfl rfl ?_
            refine q_goto rfl ?_
            refine q_iload_n rfl rfl rfl ?_
            refine q_bipush rfl rfl ?_
            refine q_icge rfl rfl (fun c495 => absurd c495 (by decide)) (fun c495 => ?_)
            refine q_aload_n rfl rfl rfl ?_
            refine q_getf rfl rfl (by decide) rfl rfl ?_
            refine q_iload_n rfl rfl rfl ?_
            refine q_aload_n rfl rfl rfl ?_
            refine q_getf rfl rfl (by decide) rfl rfl ?_
            refine q_iload_n rfl rfl rfl ?_
            refine q_iald rfl rfl (by decide) rfl (by decide) (q_tn (z := 0) rfl ?_)
            refine q_iast rfl rfl (by decide) rfl (by decide) ?_
            refine q_icc3 (z := 8) rfl rfl rfl rfl rfl ?_
            refine q_goto rfl ?_
            refine q_iload_n rfl rfl rfl ?_
            refine q_bipush rfl rfl ?_
            refine q_icge rfl rfl (fun c496 => absurd c496 (by decide)) (fun c496 => ?_)
            refine q_aload_n rfl rfl rfl ?_
            refine q_getf rfl rfl (by decide) rfl rfl ?_
            refine q_iload_n rfl rfl rfl ?_
            refine q_aload_n rfl rfl rfl ?_
            refine q_getf rfl rfl (by decide) rfl rfl ?_
            refine q_iload_n rfl rfl rfl ?_
            refine q_iald rfl rfl (by decide) rfl (by decide) (q_tn (z := 0) rfl ?_)
            refine q_iast rfl rfl (by decide) rfl (by decide) ?_
            refine q_icc3 (z := 9) rfl rfl rfl rfl rfl ?_
            refine q_goto rfl ?_
            refine q_iload_n rfl rfl rfl ?_
            refine q_bipush rfl rfl ?_
            refine q_icge rfl rfl (fun c497 => absurd c497 (by decide)) (fun c497 => ?_)
            refine q_aload_n rfl rfl rfl ?_
            refine q_getf rfl rfl (by decide) rfl rfl ?_
            refine q_iload_n rfl rfl rfl ?_
            refine q_aload_n rfl rfl rfl ?_
            refine q_getf rfl rfl (by decide) rfl rfl ?_
            refine q_iload_n rfl rfl rfl ?_
            refine q_iald rfl rfl (by decide) rfl (by decide) (q_tn (z := 0) rfl ?_)
            refine q_iast rfl rfl (by decide) rfl (by decide) ?_
            refine q_icc3 (z := 10) rfl rfl rfl rfl rfl ?_
            refine q_goto rfl ?_
            refine q_iload_n rfl rfl rfl ?_
            refine q_bipush rfl rfl ?_
            refine q_icge rfl rfl (fun c498 => absurd c498 (by decide)) (fun c498 => ?_)
            refine q_aload_n rfl rfl rfl ?_
            refine q_getf rfl rfl (by decide) rfl rfl ?_
            refine q_iload_n rfl rfl rfl ?_
            refine q_aload_n rfl rfl rfl ?_
            refine q_getf rfl rfl (by decide) rfl rfl ?_
            refine q_iload_n rfl rfl rfl ?_
            refine q_iald rfl rfl (by decide) rfl (by decide) (q_tn (z := 0) rfl ?_)
            refine q_iast rfl rfl (by decide) rfl (by decide) ?_
            refine q_icc3 (z := 11) rfl rfl rfl rfl rfl ?_
            refine q_goto rfl ?_
            refine q_iload_n rfl rfl rfl ?_
            refine q_bipush rfl rfl ?_
            refine q_icge rfl rfl (fun c499 => absurd c499 (by decide)) (fun c499 => ?_)
            refine q_aload_n rfl rfl rfl ?_
            refine q_getf rfl rfl (by decide) rfl rfl ?_
            refine q_iload_n rfl rfl rfl ?_
            refine q_aload_n rfl rfl rfl ?_
            refine q_getf rfl rfl (by decide) rfl rfl ?_
            refine q_iload_n rfl rfl rfl ?_
            refine q_iald rfl rfl (by decide) rfl (by decide) (q_tn (z := 0) rfl ?_)
            refine q_iast rfl rfl (by decide) rfl (by decide) ?_
            refine q_icc3 (z := 12) rfl rfl rfl rfl rfl ?_
            refine q_goto rfl ?_
            refine q_iload_n rfl rfl rfl ?_
            refine q_bipush rfl rfl ?_
            refine q_icge rfl rfl (fun c500 => absurd c500 (by decide)) (fun c500 => ?_)
            refine q_aload_n rfl rfl rfl ?_
            refine q_getf rfl rfl (by decide) rfl rfl ?_
            refine q_iload_n rfl rfl rfl ?_
            refine q_aload_n rfl rfl rfl ?_
            refine q_getf rfl rfl (by decide) rfl rfl ?_
            refine q_iload_n rfl rfl rfl ?_
            refine q_iald rfl rfl (by decide) rfl (by decide) (q_tn (z := 0) rfl ?_)
            refine q_iast rfl rfl (by decide) rfl (by decide) ?_
            refine q_icc3 (z := 13) rfl rfl rfl rfl rfl ?_
            refine q_goto rfl ?_
            refine q_iload_n rfl rfl rfl ?_
            refine q_bipush rfl rfl ?_
            refine q_icge rfl rfl (fun c501 => absurd c501 (by decide)) (fun c501 => ?_)
            refine q_aload_n rfl rfl rfl ?_
            refine q_getf rfl rfl (by decide) rfl rfl ?_
            refine q_iload_n rfl rfl rfl ?_
            refine q_aload_n rfl rfl rfl ?_
            refine q_getf rfl rfl (by decide) rfl rfl ?_
            refine q_iload_n rfl rfl rfl ?_
            refine q_iald rfl rfl (by decide) rfl (by decide) (q_tn (z := 0) rfl ?_)
            refine q_iast rfl rfl (by decide) rfl (by decide) ?_
            refine q_icc3 (z := 14) rfl rfl rfl rfl rfl ?_
            refine q_goto rfl ?_
            refine q_iload_n rfl rfl rfl ?_
            refine q_bipush rfl rfl ?_
            refine q_icge rfl rfl (fun c502 => absurd c502 (by decide)) (fun c502 => ?_)
            refine q_aload_n rfl rfl rfl ?_
            refine q_getf rfl rfl (by decide) rfl rfl ?_
            refine q_iload_n rfl rfl rfl ?_
            refine q_aload_n rfl rfl rfl ?_
            refine q_getf rfl rfl (by decide) rfl rfl ?_
            refine q_iload_n rfl rfl rfl ?_
            refine q_iald rfl rfl (by decide) rfl (by decide) (q_tn (z := 0) rfl ?_)
            refine q_iast rfl rfl (by decide) rfl (by decide) ?_
            refine q_icc3 (z := 15) rfl rfl rfl rfl rfl ?_
            refine q_goto rfl ?_
            refine q_iload_n rfl rfl rfl ?_
            refine q_bipush rfl rfl ?_
            refine q_icge rfl rfl (fun c503 => absurd c503 (by decide)) (fun c503 => ?_)
            refine q_aload_n rfl rfl rfl ?_
            refine q_getf rfl rfl (by decide) rfl rfl ?_
            refine q_iload_n rfl rfl rfl ?_
            refine q_aload_n rfl rfl rfl ?_
            refine q_getf rfl rfl (by decide) rfl rfl ?_
            refine q_iload_n rfl rfl rfl ?_
            refine q_iald rfl rfl (by decide) rfl (by decide) (q_tn (z := 0) rfl ?_)
            refine q_iast rfl rfl (by decide) rfl (by decide) ?_
            refine q_icc3 (z := 16) rfl rfl rfl rfl rfl ?_
            refine q_goto rfl ?_
            refine q_iload_n rfl rfl rfl ?_
            refine q_bipush rfl rfl ?_
            refine q_icge rfl rfl (fun c504 => absurd c504 (by decide)) (fun c504 => ?_)
            refine q_aload_n rfl rfl rfl ?_
            refine q_getf rfl rfl (by decide) rfl rfl ?_
            refine q_iload_n rfl rfl rfl ?_
            refine q_aload_n rfl rfl rfl ?_
            refine q_getf rfl rfl (by decide) rfl rfl ?_
            refine q_iload_n rfl rfl rfl ?_
            refine q_iald rfl rfl (by decide) rfl (by decide) (q_tn (z := 0) rfl ?_)
            refine q_iast rfl rfl (by decide) rfl (by decide) ?_
            refine q_icc3 (z := 17) rfl rfl rfl rfl rfl ?_
            refine q_goto rfl ?_
            refine q_iload_n rfl rfl rfl ?_
            refine q_bipush rfl rfl ?_
            refine q_icge rfl rfl (fun c505 => absurd c505 (by decide)) (fun c505 => ?_)
            refine q_aload_n rfl rfl rfl ?_
            refine q_getf rfl rfl (by decide) rfl rfl ?_
            refine q_iload_n rfl rfl rfl ?_
            refine q_aload_n rfl rfl rfl ?_
            refine q_getf rfl rfl (by decide) rfl rfl ?_
            refine q_iload_n rfl rfl rfl ?_
            refine q_iald rfl rfl (by decide) rfl (by decide) (q_tn (z := 0) rfl ?_)
            refine q_iast rfl rfl (by decide) rfl (by decide) ?_
            refine q_icc3 (z := 18) rfl rfl rfl rfl rfl ?_
            refine q_goto rfl ?_
            refine q_iload_n rfl rfl rfl ?_
            refine q_bipush rfl rfl ?_
            refine q_icge rfl rfl (fun c506 => absurd c506 (by decide)) (fun c506 => ?_)
            refine q_aload_n rfl rfl rfl ?_
            refine q_getf rfl rfl (by decide) rfl rfl ?_
            refine q_iload_n rfl rfl rfl ?_
            refine q_aload_n rfl rfl rfl ?_
            refine q_getf rfl rfl (by decide) rfl rfl ?_
            refine q_iload_n rfl rfl rfl ?_
            refine q_iald rfl rfl (by decide) rfl (by decide) (q_tn (z := 0) rfl ?_)
            refine q_iast rfl rfl (by decide) rfl (by decide) ?_
            refine q_icc3 (z := 19) rfl rfl rfl rfl rfl ?_
            refine q_goto rfl ?_
            refine q_iload_n rfl rfl rfl ?_
            refine q_bipush rfl rfl ?_
            refine q_icge rfl rfl (fun c507 => absurd c507 (by decide)) (fun c507 => ?_)
            refine q_aload_n rfl rfl rfl ?_
            refine q_getf rfl rfl (by decide) rfl rfl ?_
            refine q_iload_n rfl rfl rfl ?_
            refine q_aload_n rfl rfl rfl ?_
            refine q_getf rfl rfl (by decide) rfl rfl ?_
            refine q_iload_n rfl rfl rfl ?_
            refine q_iald rfl rfl (by decide) rfl (by decide) (q_tn (z := 0) rfl ?_)
            refine q_iast rfl rfl (by decide) rfl (by decide) ?_
            refine q_icc3 (z := 20) rfl rfl rfl rfl rfl ?_
            refine q_goto rfl ?_
            refine q_iload_n rfl rfl rfl ?_
            refine q_bipush rfl rfl ?_
            refine q_icge rfl rfl (fun c508 => ?_) (fun c508 => absurd (by decide) c508)
            refine q_aload_n rfl rfl rfl ?_
            refine q_iload_n rfl rfl rfl ?_
            refine q_iconst rfl rfl ?_
            refine q_iconst rfl rfl ?_
            refine q_nV3 rfl rfl (Or.inl rfl) rfl rfl rfl (by decide) rfl ⟨rfl, rfl⟩ rfl ?_
            change PQ _ _ _ mm_X12_put 0 [.ref 46, .int 1, .int (-1), .int (-1), pm_un, pm_un, pm_un] [] _ _ 0 0 _
            refine q_aload_n rfl rfl rfl ?_
            refine q_getf rfl rfl (by decide) rfl rfl ?_
            refine q_iload_n rfl rfl rfl ?_
            refine q_iald rfl rfl (by decide) rfl (by decide) (q_tn (z := 0) rfl ?_)
            refine q_ist4 rfl rfl rfl rfl ?_
            refine q_iload rfl rfl rfl ?_
            refine q_sipush rfl rfl ?_
            refine q_icne rfl rfl (fun c509 => absurd c509 (by decide)) (fun c509 => ?_)
            refine q_sipush rfl rfl ?_
            refine q_iload_n rfl rfl rfl ?_
            refine q_imul rfl rfl (q_tn (z := 2000) rfl ?_)
            refine q_iload rfl rfl rfl ?_
            refine q_iadd rfl rfl (q_tn (z := 2000) rfl ?_)
            refine q_ist5 rfl rfl rfl rfl ?_
            refine q_iconst rfl rfl ?_
            refine q_ist6 rfl rfl rfl rfl ?_
            refine q_iload rfl rfl rfl ?_
            refine q_bipush rfl rfl ?_
            refine q_icge rfl rfl (fun c510 => absurd c510 (by decide)) (fun c510 => ?_)
            refine q_aload_n rfl rfl rfl ?_
            refine q_getf rfl rfl (by decide) rfl rfl ?_
            refine q_bipush rfl rfl ?_
            refine q_iload rfl rfl rfl ?_
            refine q_imul rfl rfl (q_tn (z := 40000) rfl ?_)
            refine q_iload rfl rfl rfl ?_
            refine q_iadd rfl rfl (q_tn (z := 40000) rfl ?_)
            refine q_aload_n rfl rfl rfl ?_
            refine q_getf rfl rfl (by decide) rfl rfl ?_
            refine q_iload rfl rfl rfl ?_
            refine q_iald rfl rfl (by decide) rfl (by decide) (q_tn (z := 10) rfl ?_)
            refine q_iast rfl rfl (by decide) (FW_55 S hW) (by decide) ?_
            refine q_icc6 (z := 1) rfl rfl rfl rfl rfl ?_
            refine q_goto rfl ?_
            refine q_iload rfl rfl rfl ?_
            refine q_bipush rfl rfl ?_
            refine q_icge rfl rfl (fun c511 => absurd c511 (by decide)) (fun c511 => ?_)
            refine q_aload_n rfl rfl rfl ?_
            refine q_getf rfl rfl (by decide) rfl rfl ?_
            refine q_bipush rfl rfl ?_
            refine q_iload rfl rfl rfl ?_
            refine q_imul rfl rfl (q_tn (z := 40000) rfl ?_)
            refine q_iload rfl rfl rfl ?_
            refine q_iadd rfl rfl (q_tn (z := 40001) rfl ?_)
            refine q_aload_n rfl rfl rfl ?_
            refine q_getf rfl rfl (by decide) rfl rfl ?_
            refine q_iload rfl rfl rfl ?_
            refine q_iald rfl rfl (by decide) rfl (by decide) (q_tn (z := 0) rfl ?_)
            refine q_iast rfl rfl (by decide) rfl (by decide) ?_
            refine q_icc6 (z := 2) rfl rfl rfl rfl rfl ?_
            refine q_goto rfl ?_
            refine q_iload rfl rfl rfl ?_
            refine q_bipush rfl rfl ?_
            refine q_icge rfl rfl (fun c512 => absurd c512 (by decide)) (fun c512 => ?_)
            refine q_aload_n rfl rfl rfl ?_
            refine q_getf rfl rfl (by decide) rfl rfl ?_
            refine q_bipush rfl rfl ?_
            refine q_iload rfl rfl rfl ?_
            refine q_imul rfl rfl (q_tn (z := 40000) rfl ?_)
            refine q_iload rfl rfl rfl ?_
            refine q_iadd rfl rfl (q_tn (z := 40002) rfl ?_)
            refine q_aload_n rfl rfl rfl ?_
            refine q_getf rfl rfl (by decide) rfl rfl ?_
            refine q_iload rfl rfl rfl ?_
            refine q_iald rfl rfl (by decide) rfl (by decide) (q_tn (z := 0) rfl ?_)
            refine q_iast rfl rfl (by decide) rfl (by decide) ?_
            refine q_icc6 (z := 3) rfl rfl rfl rfl rfl ?_
            refine q_goto rfl ?_
            refine q_iload rfl rfl rfl ?_
            refine q_bipush rfl rfl ?_
            refine q_icge rfl rfl (fun c513 => absurd c513 (by decide)) (fun c513 => ?_)
            refine q_aload_n rfl rfl rfl ?_
            refine q_getf rfl rfl (by decide) rfl rfl ?_
            refine q_bipush rfl rfl ?_
            refine q_iload rfl rfl rfl ?_
            refine q_imul rfl rfl (q_tn (z := 40000) rfl ?_)
            refine q_iload rfl rfl rfl ?_
            refine q_iadd rfl rfl (q_tn (z := 40003) rfl ?_)
            refine q_aload_n rfl rfl rfl ?_
            refine q_getf rfl rfl (by decide) rfl rfl ?_
            refine q_iload rfl rfl rfl ?_
            refine q_iald rfl rfl (by decide) rfl (by decide) (q_tn (z := 0) rfl ?_)
            refine q_iast rfl rfl (by decide) rfl (by decide) ?_
            refine q_icc6 (z := 4) rfl rfl rfl rfl rfl ?_
            refine q_goto rfl ?_
            refine q_iload rfl rfl rfl ?_
            refine q_bipush rfl rfl ?_
            refine q_icge rfl rfl (fun c514 => absurd c514 (by decide)) (fun c514 => ?_)
            refine q_aload_n rfl rfl rfl ?_
            refine q_getf rfl rfl (by decide) rfl rfl ?_
            refine q_bipush rfl rfl ?_
            refine q_iload rfl rfl rfl ?_
            refine q_imul rfl rfl (q_tn (z := 40000) rfl ?_)
            refine q_iload rfl rfl rfl ?_
            refine q_iadd rfl rfl (q_tn (z := 40004) rfl ?_)
            refine q_aload_n rfl rfl rfl ?_
            refine q_getf rfl rfl (by decide) rfl rfl ?_
            refine q_iload rfl rfl rfl ?_
            refine q_iald rfl rfl (by decide) rfl (by decide) (q_tn (z := 0) rfl ?_)
            refine q_iast rfl rfl (by decide) rfl (by decide) ?_
            refine q_icc6 (z := 5) rfl rfl rfl rfl rfl ?_
            refine q_goto rfl ?_
            refine q_iload rfl rfl rfl ?_
            refine q_bipush rfl rfl ?_
            refine q_icge rfl rfl (fun c515 => absurd c515 (by decide)) (fun c515 => ?_)
            refine q_aload_n rfl rfl rfl ?_
            refine q_getf rfl rfl (by decide) rfl rfl ?_
            refine q_bipush rfl rfl ?_
            refine q_iload rfl rfl rfl ?_
            refine q_imul rfl rfl (q_tn (z := 40000) rfl ?_)
            refine q_iload rfl rfl rfl ?_
            refine q_iadd rfl rfl (q_tn (z := 40005) rfl ?_)
            refine q_aload_n rfl rfl rfl ?_
            refine q_getf rfl rfl (by decide) rfl rfl ?_
            refine q_iload rfl rfl rfl ?_
            refine q_iald rfl rfl (by decide) rfl (by decide) (q_tn (z := 0) rfl ?_)
            refine q_iast rfl rfl (by decide) rfl (by decide) ?_
            refine q_icc6 (z := 6) rfl rfl rfl rfl rfl ?_
            refine q_goto rfl ?_
            refine q_iload rfl rfl rfl ?_
            refine q_bipush rfl rfl ?_
            refine q_icge rfl rfl (fun c516 => absurd c516 (by decide)) (fun c516 => ?_)
            refine q_aload_n rfl rfl rfl ?_
            refine q_getf rfl rfl (by decide) rfl rfl ?_
            refine q_bipush rfl rfl ?_
            refine q_iload rfl rfl rfl ?_
            refine q_imul rfl rfl (q_tn (z := 40000) rfl ?_)
            refine q_iload rfl rfl rfl ?_
            refine q_iadd rfl rfl (q_tn (z := 40006) rfl ?_)
            refine q_aload_n rfl rfl rfl ?_
            refine q_getf rfl rfl (by decide) rfl rfl ?_
            refine q_iload rfl rfl rfl ?_
            refine q_iald rfl rfl (by decide) rfl (by decide) (q_tn (z := 0) rfl ?_)
            refine q_iast rfl rfl (by decide) rfl (by decide) ?_
            refine q_icc6 (z := 7) rfl rfl rfl rfl rfl ?_
            refine q_goto rfl ?_
            refine q_iload rfl rfl rfl ?_
            refine q_bipush rfl rfl ?_
            refine q_icge rfl rfl (fun c517 => absurd c517 (by decide)) (fun c517 => ?_)
            refine q_aload_n rfl rfl rfl ?_
            refine q_getf rfl rfl (by decide) rfl rfl ?_
            refine q_bipush rfl rfl ?_
            refine q_iload rfl rfl rfl ?_
            refine q_imul rfl rfl (q_tn (z := 40000) rfl ?_)
            refine q_iload rfl rfl rfl ?_
            refine q_iadd rfl rfl (q_tn (z := 40007) rfl ?_)
            refine q_aload_n rfl rfl rfl ?_
            refine q_getf rfl rfl (by decide) rfl rfl ?_
            refine q_iload rfl rfl rfl ?_
            refine q_iald rfl rfl (by decide) rfl (by decide) (q_tn (z := 0) rfl ?_)
            as_aux_lemma =>
              refine q_iast rfl rfl (by decide) rfl (by decide) ?_
              refine q_icc6 (z := 8) rfl rfl rfl rfl rfl ?_
              refine q_goto rfl ?_
              refine q_iload rfl rfl rfl ?_
              refine q_bipush rfl rfl ?_
              refine q_icge rfl rfl (fun c518 => absurd c518 (by decide)) (fun c518 => ?_)
              refine q_aload_n rfl rfl rfl ?_
              refine q_getf rfl rfl (by decide) rfl rfl ?_
              refine q_bipush rfl rfl ?_
              refine q_iload rfl rfl rfl ?_
              refine q_imul rfl rfl (q_tn (z := 40000) rfl ?_)
              refine q_iload rfl rfl rfl ?_
              refine q_iadd rfl rfl (q_tn (z := 40008) rfl ?_)
              refine q_aload_n rfl rfl rfl ?_
              refine q_getf rfl rfl (by decide) rfl rfl ?_
              refine q_iload rfl rfl rfl ?_
              refine q_iald rfl rfl (by decide) rfl (by decide) (q_tn (z := 0) rfl ?_)
              refine q_iast rfl rfl (by decide) rfl (by decide) ?_
              refine q_icc6 (z := 9) rfl rfl rfl rfl rfl ?_
              refine q_goto rfl ?_
              refine q_iload rfl rfl rfl ?_
              refine q_bipush rfl rfl ?_
              refine q_icge rfl rfl (fun c519 => absurd c519 (by decide)) (fun c519 => ?_)
              refine q_aload_n rfl rfl rfl ?_
              refine q_getf rfl rfl (by decide) rfl rfl ?_
              refine q_bipush rfl rfl ?_
              refine q_iload rfl rfl rfl ?_
              refine q_imul rfl rfl (q_tn (z := 40000) rfl ?_)
              refine q_iload rfl rfl rfl ?_
              refine q_iadd rfl rfl (q_tn (z := 40009) rfl ?_)
              refine q_aload_n rfl rfl rfl ?_
              refine q_getf rfl rfl (by decide) rfl rfl ?_
              refine q_iload rfl rfl rfl ?_
              refine q_iald rfl rfl (by decide) rfl (by decide) (q_tn (z := 0) rfl ?_)
              refine q_iast rfl rfl (by decide) rfl (by decide) ?_
              refine q_icc6 (z := 10) rfl rfl rfl rfl rfl ?_
              refine q_goto rfl ?_
              refine q_iload rfl rfl rfl ?_
              refine q_bipush rfl rfl ?_
              refine q_icge rfl rfl (fun c520 => absurd c520 (by decide)) (fun c520 => ?_)
              refine q_aload_n rfl rfl rfl ?_
              refine q_getf rfl rfl (by decide) rfl rfl ?_
              refine q_bipush rfl rfl ?_
              refine q_iload rfl rfl rfl ?_
              refine q_imul rfl rfl (q_tn (z := 40000) rfl ?_)
              refine q_iload rfl rfl rfl ?_
              refine q_iadd rfl rfl (q_tn (z := 40010) rfl ?_)
              refine q_aload_n rfl rfl rfl ?_
              refine q_getf rfl rfl (by decide) rfl rfl ?_
              refine q_iload rfl rfl rfl ?_
              refine q_iald rfl rfl (by decide) rfl (by decide) (q_tn (z := 0) rfl ?_)
              refine q_iast rfl rfl (by decide) rfl (by decide) ?_
              refine q_icc6 (z := 11) rfl rfl rfl rfl rfl ?_
              refine q_goto rfl ?_
              refine q_iload rfl rfl rfl ?_
              refine q_bipush rfl rfl ?_
              refine q_icge rfl rfl (fun c521 => absurd c521 (by decide)) (fun c521 => ?_)
              refine q_aload_n rfl rfl rfl ?_
              refine q_getf rfl rfl (by decide) rfl rfl ?_
              refine q_bipush rfl rfl ?_
              refine q_iload rfl rfl rfl ?_
              refine q_imul rfl rfl (q_tn (z := 40000) rfl ?_)
              refine q_iload rfl rfl rfl ?_
              refine q_iadd rfl rfl (q_tn (z := 40011) rfl ?_)
              refine q_aload_n rfl rfl rfl ?_
              refine q_getf rfl rfl (by decide) rfl rfl ?_
              refine q_iload rfl rfl rfl ?_
              refine q_iald rfl rfl (by decide) rfl (by decide) (q_tn (z := 0) rfl ?_)
              refine q_iast rfl rfl (by decide) rfl (by decide) ?_
              refine q_icc6 (z := 12) rfl rfl rfl rfl rfl ?_
              refine q_goto rfl ?_
              refine q_iload rfl rfl rfl ?_
              refine q_bipush rfl rfl ?_
              refine q_icge rfl rfl (fun c522 => absurd c522 (by decide)) (fun c522 => ?_)
              refine q_aload_n rfl rfl rfl ?_
              refine q_getf rfl rfl (by decide) rfl rfl ?_
              refine q_bipush rfl rfl ?_
              refine q_iload rfl rfl rfl ?_
              refine q_imul rfl rfl (q_tn (z := 40000) rfl ?_)
              refine q_iload rfl rfl rfl ?_
              refine q_iadd rfl rfl (q_tn (z := 40012) rfl ?_)
              refine q_aload_n rfl rfl rfl ?_
              refine q_getf rfl rfl (by decide) rfl rfl ?_
              refine q_iload rfl rfl rfl ?_
              refine q_iald rfl rfl (by decide) rfl (by decide) (q_tn (z := 0) rfl ?_)
              refine q_iast rfl rfl (by decide) rfl (by decide) ?_
              refine q_icc6 (z := 13) rfl rfl rfl rfl rfl ?_
              refine q_goto rfl ?_
              refine q_iload rfl rfl rfl ?_
              refine q_bipush rfl rfl ?_
              refine q_icge rfl rfl (fun c523 => absurd c523 (by decide)) (fun c523 => ?_)
              refine q_aload_n rfl rfl rfl ?_
              refine q_getf rfl rfl (by decide) rfl rfl ?_
              refine q_bipush rfl rfl ?_
              refine q_iload rfl rfl rfl ?_
              refine q_imul rfl rfl (q_tn (z := 40000) rfl ?_)
              refine q_iload rfl rfl rfl ?_
              refine q_iadd rfl rfl (q_tn (z := 40013) rfl ?_)
              refine q_aload_n rfl rfl rfl ?_
              refine q_getf rfl rfl (by decide) rfl rfl ?_
              refine q_iload rfl rfl rfl ?_
              refine q_iald rfl rfl (by decide) rfl (by decide) (q_tn (z := 0) rfl ?_)
              refine q_iast rfl rfl (by decide) rfl (by decide) ?_
              refine q_icc6 (z := 14) rfl rfl rfl rfl rfl ?_
              refine q_goto rfl ?_
              refine q_iload rfl rfl rfl ?_
              refine q_bipush rfl rfl ?_
              refine q_icge rfl rfl (fun c524 => absurd c524 (by decide)) (fun c524 => ?_)
              refine q_aload_n rfl rfl rfl ?_
              refine q_getf rfl rfl (by decide) rfl rfl ?_
              refine q_bipush rfl rfl ?_
              refine q_iload rfl rfl rfl ?_
              refine q_imul rfl rfl (q_tn (z := 40000) rfl ?_)
              refine q_iload rfl rfl rfl ?_
              refine q_iadd rfl rfl (q_tn (z := 40014) rfl ?_)
              refine q_aload_n rfl rfl rfl ?_
              refine q_getf rfl rfl (by decide) rfl rfl ?_
              refine q_iload rfl rfl rfl ?_
              refine q_iald rfl rfl (by decide) rfl (by decide) (q_tn (z := 0) rfl ?_)
              refine q_iast rfl rfl (by decide) rfl (by decide) ?_
              refine q_icc6 (z := 15) rfl rfl rfl rfl rfl ?_
              refine q_goto rfl ?_
              refine q_iload rfl rfl rfl ?_
              refine q_bipush rfl rfl ?_
              refine q_icge rfl rfl (fun c525 => absurd c525 (by decide)) (fun c525 => ?_)
              refine q_aload_n rfl rfl rfl ?_
              refine q_getf rfl rfl (by decide) rfl rfl ?_
              refine q_bipush rfl rfl ?_
              refine q_iload rfl rfl rfl ?_
              refine q_imul rfl rfl (q_tn (z := 40000) rfl ?_)
              refine q_iload rfl rfl rfl ?_
              refine q_iadd rfl rfl (q_tn (z := 40015) rfl ?_)
              refine q_aload_n rfl rfl rfl ?_
              refine q_getf rfl rfl (by decide) rfl rfl ?_
              refine q_iload rfl rfl rfl ?_
              refine q_iald rfl rfl (by decide) rfl (by decide) (q_tn (z := 0) rfl ?_)
              refine q_iast rfl rfl (by decide) rfl (by decide) ?_
              refine q_icc6 (z := 16) rfl rfl rfl rfl rfl ?_
              refine q_goto rfl ?_
              refine q_iload rfl rfl rfl ?_
              refine q_bipush rfl rfl ?_
              refine q_icge rfl rfl (fun c526 => absurd c526 (by decide)) (fun c526 => ?_)
              refine q_aload_n rfl rfl rfl ?_
              refine q_getf rfl rfl (by decide) rfl rfl ?_
              refine q_bipush rfl rfl ?_
              refine q_iload rfl rfl rfl ?_
              refine q_imul rfl rfl (q_tn (z := 40000) rfl ?_)
              refine q_iload rfl rfl rfl ?_
              refine q_iadd rfl rfl (q_tn (z := 40016) rfl ?_)
              refine q_aload_n rfl rfl rfl ?_
              refine q_getf rfl rfl (by decide) rfl rfl ?_
              refine q_iload rfl rfl rfl ?_
              refine q_iald rfl rfl (by decide) rfl (by decide) (q_tn (z := 0) rfl ?_)
              refine q_iast rfl rfl (by decide) rfl (by decide) ?_
              refine q_icc6 (z := 17) rfl rfl rfl rfl rfl ?_
              refine q_goto rfl ?_
              refine q_iload rfl rfl rfl ?_
              refine q_bipush rfl rfl ?_
              refine q_icge rfl rfl (fun c527 => absurd c527 (by decide)) (fun c527 => ?_)
              refine q_aload_n rfl rfl rfl ?_
              refine q_getf rfl rfl (by decide) rfl rfl ?_
              refine q_bipush rfl rfl ?_
              refine q_iload rfl rfl rfl ?_
              refine q_imul rfl rfl (q_tn (z := 40000) rfl ?_)
              refine q_iload rfl rfl rfl ?_
              refine q_iadd rfl rfl (q_tn (z := 40017) rfl ?_)
              refine q_aload_n rfl rfl rfl ?_
              refine q_getf rfl rfl (by decide) rfl rfl ?_
              refine q_iload rfl rfl rfl ?_
              refine q_iald rfl rfl (by decide) rfl (by decide) (q_tn (z := 0) rfl ?_)
              refine q_iast rfl rfl (by decide) rfl (by decide) ?_
              refine q_icc6 (z := 18) rfl rfl rfl rfl rfl ?_
              refine q_goto rfl ?_
              refine q_iload rfl rfl rfl ?_
              refine q_bipush rfl rfl ?_
              refine q_icge rfl rfl (fun c528 => absurd c528 (by decide)) (fun c528 => ?_)
              refine q_aload_n rfl rfl rfl ?_
              refine q_getf rfl rfl (by decide) rfl rfl ?_
              refine q_bipush rfl rfl ?_
              refine q_iload rfl rfl rfl ?_
              refine q_imul rfl rfl (q_tn (z := 40000) rfl ?_)
              refine q_iload rfl rfl rfl ?_
              refine q_iadd rfl rfl (q_tn (z := 40018) rfl ?_)
              refine q_aload_n rfl rfl rfl ?_
              refine q_getf rfl rfl (by decide) rfl rfl ?_
              refine q_iload rfl rfl rfl ?_
              refine q_iald rfl rfl (by decide) rfl (by decide) (q_tn (z := 0) rfl ?_)
              refine q_iast rfl rfl (by decide) rfl (by decide) ?_
              refine q_icc6 (z := 19) rfl rfl rfl rfl rfl ?_
              refine q_goto rfl ?_
              refine q_iload rfl rfl rfl ?_
              refine q_bipush rfl rfl ?_
              refine q_icge rfl rfl (fun c529 => absurd c529 (by decide)) (fun c529 => ?_)
              refine q_aload_n rfl rfl rfl ?_
              refine q_getf rfl rfl (by decide) rfl rfl ?_
              refine q_bipush rfl rfl ?_
              refine q_iload rfl rfl rfl ?_
              refine q_imul rfl rfl (q_tn (z := 40000) rfl ?_)
              refine q_iload rfl rfl rfl ?_
              refine q_iadd rfl rfl (q_tn (z := 40019) rfl ?_)
              refine q_aload_n rfl rfl rfl ?_
              refine q_getf rfl rfl (by decide) rfl rfl ?_
              refine q_iload rfl rfl rfl ?_
              refine q_iald rfl rfl (by decide) rfl (by decide) (q_tn (z := 0) rfl ?_)
              refine q_iast rfl rfl (by decide) rfl (by decide) ?_
              refine q_icc6 (z := 20) rfl rfl rfl rfl rfl ?_
              refine q_goto rfl ?_
              refine q_iload rfl rfl rfl ?_
              refine q_bipush rfl rfl ?_
              refine q_icge rfl rfl (fun c530 => ?_) (fun c530 => absurd (by decide) c530)
              refine q_aload_n rfl rfl rfl ?_
              refine q_getf rfl rfl (by decide) rfl rfl ?_
              refine q_iload rfl rfl rfl ?_
              refine q_iload_n rfl rfl rfl ?_
              refine q_iast rfl rfl (by decide) (FW_56 S hW) (by decide) ?_
              refine q_aload_n rfl rfl rfl ?_
              refine q_getf rfl rfl (by decide) rfl rfl ?_
              refine q_iload rfl rfl rfl ?_
              refine q_iload_n rfl rfl rfl ?_
              refine q_iast rfl rfl (by decide) (FW_57 S hW) (by decide) ?_
              refine q_aload_n rfl rfl rfl ?_
              refine q_iload_n rfl rfl rfl ?_
              refine q_nV1 rfl rfl (Or.inl rfl) rfl rfl rfl (by decide) rfl ⟨rfl, rfl⟩ rfl ?_
              change PQ _ _ _ mm_X12_rest 0 [.ref 46, .int 1, pm_un, pm_un] [] _ _ 0 0 _
              refine q_bipush rfl rfl ?_
              refine q_ist2n rfl rfl rfl rfl ?_
              refine q_iconst rfl rfl ?_
              refine q_ist3n rfl rfl rfl rfl ?_
              refine q_iload_n rfl rfl rfl ?_
              refine q_bipush rfl rfl ?_
              refine q_icge rfl rfl (fun c531 => absurd c531 (by decide)) (fun c531 => ?_)
              refine q_bipush rfl rfl ?_
              refine q_iload_n rfl rfl rfl ?_
              refine q_imul rfl rfl (q_tn (z := 527) rfl ?_)
              refine q_aload_n rfl rfl rfl ?_
              refine q_getf rfl rfl (by decide) rfl rfl ?_
              refine q_iload_n rfl rfl rfl ?_
              refine q_iald rfl rfl (by decide) rfl (by decide) (q_tn (z := 10) rfl ?_)
              refine q_iadd rfl rfl (q_tn (z := 537) rfl ?_)
              refine q_ist2n rfl rfl rfl rfl ?_
              refine q_icc3 (z := 1) rfl rfl rfl rfl rfl ?_
              refine q_goto rfl ?_
              refine q_iload_n rfl rfl rfl ?_
              refine q_bipush rfl rfl ?_
              refine q_icge rfl rfl (fun c532 => absurd c532 (by decide)) (fun c532 => ?_)
              refine q_bipush rfl rfl ?_
              refine q_iload_n rfl rfl rfl ?_
              refine q_imul rfl rfl (q_tn (z := 16647) rfl ?_)
              refine q_aload_n rfl rfl rfl ?_
              refine q_getf rfl rfl (by decide) rfl rfl ?_
              refine q_iload_n rfl rfl rfl ?_
              refine q_iald rfl rfl (by decide) rfl (by decide) (q_tn (z := 0) rfl ?_)
              refine q_iadd rfl rfl (q_tn (z := 16647) rfl ?_)
              refine q_ist2n rfl rfl rfl rfl ?_
              refine q_icc3 (z := 2) rfl rfl rfl rfl rfl ?_
              refine q_goto rfl ?_
              refine q_iload_n rfl rfl rfl ?_
              refine q_bipush rfl rfl ?_
              refine q_icge rfl rfl (fun c533 => absurd c533 (by decide)) (fun c533 => ?_)
              refine q_bipush rfl rfl ?_
              refine q_iload_n rfl rfl rfl ?_
              refine q_imul rfl rfl (q_tn (z := 516057) rfl ?_)
              refine q_aload_n rfl rfl rfl ?_
              refine q_getf rfl rfl (by decide) rfl rfl ?_
              refine q_iload_n rfl rfl rfl ?_
              refine q_iald rfl rfl (by decide) rfl (by decide) (q_tn (z := 0) rfl ?_)
              refine q_iadd rfl rfl (q_tn (z := 516057) rfl ?_)
              refine q_ist2n rfl rfl rfl rfl ?_
              refine q_icc3 (z := 3) rfl rfl rfl rfl rfl ?_
              refine q_goto rfl ?_
              refine q_iload_n rfl rfl rfl ?_
              refine q_bipush rfl rfl ?_
              refine q_icge rfl rfl (fun c534 => absurd c534 (by decide)) (fun c534 => ?_)
              refine q_bipush rfl rfl ?_
              refine q_iload_n rfl rfl rfl ?_
              refine q_imul rfl rfl (q_tn (z := 15997767) rfl ?_)
              refine q_aload_n rfl rfl rfl ?_
              refine q_getf rfl rfl (by decide) rfl rfl ?_
              refine q_iload_n rfl rfl rfl ?_
              refine q_iald rfl rfl (by decide) rfl (by decide) (q_tn (z := 0) rfl ?_)
              refine q_iadd rfl rfl (q_tn (z := 15997767) rfl ?_)
              refine q_ist2n rfl rfl rfl rfl ?_
              refine q_icc3 (z := 4) rfl rfl rfl rfl rfl ?_
              refine q_goto rfl ?_
              refine q_iload_n rfl rfl rfl ?_
              refine q_bipush rfl rfl ?_
              refine q_icge rfl rfl (fun c535 => absurd c535 (by decide)) (fun c535 => ?_)
              refine q_bipush rfl rfl ?_
              refine q_iload_n rfl rfl rfl ?_
              refine q_imul rfl rfl (q_tn (z := 495930777) rfl ?_)
              refine q_aload_n rfl rfl rfl ?_
              refine q_getf rfl rfl (by decide) rfl rfl ?_
              refine q_iload_n rfl rfl rfl ?_
              refine q_iald rfl rfl (by decide) rfl (by decide) (q_tn (z := 0) rfl ?_)
              refine q_iadd rfl rfl (q_tn (z := 495930777) rfl ?_)
              refine q_ist2n rfl rfl rfl rfl ?_
              refine q_icc3 (z := 5) rfl rfl rfl rfl rfl ?_
              refine q_goto rfl ?_
              refine q_iload_n rfl rfl rfl ?_
              refine q_bipush rfl rfl ?_
              refine q_icge rfl rfl (fun c536 => absurd c536 (by decide)) (fun c536 => ?_)
              refine q_bipush rfl rfl ?_
              refine q_iload_n rfl rfl rfl ?_
              refine q_imul rfl rfl (q_tn (z := (-1806015097)) rfl ?_)
              refine q_aload_n rfl rfl rfl ?_
              refine q_getf rfl rfl (by decide) rfl rfl ?_
              refine q_iload_n rfl rfl rfl ?_
              refine q_iald rfl rfl (by decide) rfl (by decide) (q_tn (z := 0) rfl ?_)
              refine q_iadd rfl rfl (q_tn (z := (-1806015097)) rfl ?_)
              refine q_ist2n rfl rfl rfl rfl ?_
              refine q_icc3 (z := 6) rfl rfl rfl rfl rfl ?_
              refine q_goto rfl ?_
              refine q_iload_n rfl rfl rfl ?_
              refine q_bipush rfl rfl ?_
              refine q_icge rfl rfl (fun c537 => absurd c537 (by decide)) (fun c537 => ?_)
              refine q_bipush rfl rfl ?_
              refine q_iload_n rfl rfl rfl ?_
              refine q_imul rfl rfl (q_tn (z := (-151893159)) rfl ?_)
              refine q_aload_n rfl rfl rfl ?_
              refine q_getf rfl rfl (by decide) rfl rfl ?_
              refine q_iload_n rfl rfl rfl ?_
              refine q_iald rfl rfl (by decide) rfl (by decide) (q_tn (z := 0) rfl ?_)
              refine q_iadd rfl rfl (q_tn (z := (-151893159)) rfl ?_)
              refine q_ist2n rfl rfl rfl rfl ?_
              refine q_icc3 (z := 7) rfl rfl rfl rfl rfl ?_
              refine q_goto rfl ?_
              refine q_iload_n rfl rfl rfl ?_
              refine q_bipush rfl rfl ?_
              refine q_icge rfl rfl (fun c538 => absurd c538 (by decide)) (fun c538 => ?_)
              refine q_bipush rfl rfl ?_
              refine q_iload_n rfl rfl rfl ?_
              refine q_imul rfl rfl (q_tn (z := (-413720633)) rfl ?_)
              refine q_aload_n rfl rfl rfl ?_
              refine q_getf rfl rfl (by decide) rfl rfl ?_
              refine q_iload_n rfl rfl rfl ?_
              refine q_iald rfl rfl (by decide) rfl (by decide) (q_tn (z := 0) rfl ?_)
              refine q_iadd rfl rfl (q_tn (z := (-413720633)) rfl ?_)
              refine q_ist2n rfl rfl rfl rfl ?_
              refine q_icc3 (z := 8) rfl rfl rfl rfl rfl ?_
              refine q_goto rfl ?_
              refine q_iload_n rfl rfl rfl ?_
              refine q_bipush rfl rfl ?_
              refine q_icge rfl rfl (fun c539 => absurd c539 (by decide)) (fun c539 => ?_)
              refine q_bipush rfl rfl ?_
              refine q_iload_n rfl rfl rfl ?_
              refine q_imul rfl rfl (q_tn (z := 59562265) rfl ?_)
              refine q_aload_n rfl rfl rfl ?_
              refine q_getf rfl rfl (by decide) rfl rfl ?_
              refine q_iload_n rfl rfl rfl ?_
              refine q_iald rfl rfl (by decide) rfl (by decide) (q_tn (z := 0) rfl ?_)
              refine q_iadd rfl rfl (q_tn (z := 59562265) rfl ?_)
              refine q_ist2n rfl rfl rfl rfl ?_
              refine q_icc3 (z := 9) rfl rfl rfl rfl rfl ?_
              refine q_goto rfl ?_
              refine q_iload_n rfl rfl rfl ?_
              refine q_bipush rfl rfl ?_
              refine q_icge rfl rfl (fun c540 => absurd c540 (by decide)) (fun c540 => ?_)
              refine q_bipush rfl rfl ?_
              refine q_iload_n rfl rfl rfl ?_
              refine q_imul rfl rfl (q_tn (z := 1846430215) rfl ?_)
              refine q_aload_n rfl rfl rfl ?_
              refine q_getf rfl rfl (by decide) rfl rfl ?_
              refine q_iload_n rfl rfl rfl ?_
              refine q_iald rfl rfl (by decide) rfl (by decide) (q_tn (z := 0) rfl ?_)
              refine q_iadd rfl rfl (q_tn (z := 1846430215) rfl ?_)
              refine q_ist2n rfl rfl rfl rfl ?_
              refine q_icc3 (z := 10) rfl rfl rfl rfl rfl ?_
              refine q_goto rfl ?_
              refine q_iload_n rfl rfl rfl ?_
              refine q_bipush rfl rfl ?_
              refine q_icge rfl rfl (fun c541 => absurd c541 (by decide)) (fun c541 => ?_)
              refine q_bipush rfl rfl ?_
              refine q_iload_n rfl rfl rfl ?_
              refine q_imul rfl rfl (q_tn (z := 1404761817) rfl ?_)
              refine q_aload_n rfl rfl rfl ?_
              refine q_getf rfl rfl (by decide) rfl rfl ?_
              refine q_iload_n rfl rfl rfl ?_
              refine q_iald rfl rfl (by decide) rfl (by decide) (q_tn (z := 0) rfl ?_)
              refine q_iadd rfl rfl (q_tn (z := 1404761817) rfl ?_)
              refine q_ist2n rfl rfl rfl rfl ?_
              refine q_icc3 (z := 11) rfl rfl rfl rfl rfl ?_
              refine q_goto rfl ?_
              refine q_iload_n rfl rfl rfl ?_
              refine q_bipush rfl rfl ?_
              refine q_icge rfl rfl (fun c542 => absurd c542 (by decide)) (fun c542 => ?_)
              refine q_bipush rfl rfl ?_
              refine q_iload_n rfl rfl rfl ?_
              refine q_imul rfl rfl (q_tn (z := 597943367) rfl ?_)
              refine q_aload_n rfl rfl rfl ?_
              refine q_getf rfl rfl (by decide) rfl rfl ?_
              refine q_iload_n rfl rfl rfl ?_
              refine q_iald rfl rfl (by decide) rfl (by decide) (q_tn (z := 0) rfl ?_)
              refine q_iadd rfl rfl (q_tn (z := 597943367) rfl ?_)
              refine q_ist2n rfl rfl rfl rfl ?_
              refine q_icc3 (z := 12) rfl rfl rfl rfl rfl ?_
              refine q_goto rfl ?_
              refine q_iload_n rfl rfl rfl ?_
              refine q_bipush rfl rfl ?_
              refine q_icge rfl rfl (fun c543 => absurd c543 (by decide)) (fun c543 => ?_)
              refine q_bipush rfl rfl ?_
              refine q_iload_n rfl rfl rfl ?_
              refine q_imul rfl rfl (q_tn (z := 1356375193) rfl ?_)
              refine q_aload_n rfl rfl rfl ?_
              refine q_getf rfl rfl (by decide) rfl rfl ?_
              refine q_iload_n rfl rfl rfl ?_
              refine q_iald rfl rfl (by decide) rfl (by decide) (q_tn (z := 0) rfl ?_)
              refine q_iadd rfl rfl (q_tn (z := 1356375193) rfl ?_)
              refine q_ist2n rfl rfl rfl rfl ?_
              refine q_icc3 (z := 13) rfl rfl rfl rfl rfl ?_
              refine q_goto rfl ?_
              refine q_iload_n rfl rfl rfl ?_
              refine q_bipush rfl rfl ?_
              refine q_icge rfl rfl (fun c544 => absurd c544 (by decide)) (fun c544 => ?_)
              refine q_bipush rfl rfl ?_
              refine q_iload_n rfl rfl rfl ?_
              refine q_imul rfl rfl (q_tn (z := (-902041977)) rfl ?_)
              refine q_aload_n rfl rfl rfl ?_
              refine q_getf rfl rfl (by decide) rfl rfl ?_
              refine q_iload_n rfl rfl rfl ?_
              refine q_iald rfl rfl (by decide) rfl (by decide) (q_tn (z := 0) rfl ?_)
              refine q_iadd rfl rfl (q_tn (z := (-902041977)) rfl ?_)
              refine q_ist2n rfl rfl rfl rfl ?_
              refine q_icc3 (z := 14) rfl rfl rfl rfl rfl ?_
              refine q_goto rfl ?_
              refine q_iload_n rfl rfl rfl ?_
              refine q_bipush rfl rfl ?_
              refine q_icge rfl rfl (fun c545 => absurd c545 (by decide)) (fun c545 => ?_)
              refine q_bipush rfl rfl ?_
              refine q_iload_n rfl rfl rfl ?_
              refine q_imul rfl rfl (q_tn (z := 2101469785) rfl ?_)
              refine q_aload_n rfl rfl rfl ?_
              refine q_getf rfl rfl (by decide) rfl rfl ?_
              refine q_iload_n rfl rfl rfl ?_
              refine q_iald rfl rfl (by decide) rfl (by decide) (q_tn (z := 0) rfl ?_)
              refine q_iadd rfl rfl (q_tn (z := 2101469785) rfl ?_)
              refine q_ist2n rfl rfl rfl rfl ?_
              refine q_icc3 (z := 15) rfl rfl rfl rfl rfl ?_
              refine q_goto rfl ?_
              refine q_iload_n rfl rfl rfl ?_
              refine q_bipush rfl rfl ?_
              refine q_icge rfl rfl (fun c546 => absurd c546 (by decide)) (fun c546 => ?_)
              refine q_bipush rfl rfl ?_
              refine q_iload_n rfl rfl rfl ?_
              refine q_imul rfl rfl (q_tn (z := 721053895) rfl ?_)
              refine q_aload_n rfl rfl rfl ?_
              refine q_getf rfl rfl (by decide) rfl rfl ?_
              refine q_iload_n rfl rfl rfl ?_
              refine q_iald rfl rfl (by decide) rfl (by decide) (q_tn (z := 0) rfl ?_)
              refine q_iadd rfl rfl (q_tn (z := 721053895) rfl ?_)
              refine q_ist2n rfl rfl rfl rfl ?_
              refine q_icc3 (z := 16) rfl rfl rfl rfl rfl ?_
              refine q_goto rfl ?_
              refine q_iload_n rfl rfl rfl ?_
              refine q_bipush rfl rfl ?_
              refine q_icge rfl rfl (fun c547 => absurd c547 (by decide)) (fun c547 => ?_)
              refine q_bipush rfl rfl ?_
              refine q_iload_n rfl rfl rfl ?_
              refine q_imul rfl rfl (q_tn (z := 877834265) rfl ?_)
              refine q_aload_n rfl rfl rfl ?_
              refine q_getf rfl rfl (by decide) rfl rfl ?_
              refine q_iload_n rfl rfl rfl ?_
              refine q_iald rfl rfl (by decide) rfl (by decide) (q_tn (z := 0) rfl ?_)
              refine q_iadd rfl rfl (q_tn (z := 877834265) rfl ?_)
              refine q_ist2n rfl rfl rfl rfl ?_
              refine q_icc3 (z := 17) rfl rfl rfl rfl rfl ?_
              refine q_goto rfl ?_
              refine q_iload_n rfl rfl rfl ?_
              refine q_bipush rfl rfl ?_
              refine q_icge rfl rfl (fun c548 => absurd c548 (by decide)) (fun c548 => ?_)
              refine q_bipush rfl rfl ?_
              refine q_iload_n rfl rfl rfl ?_
              refine q_imul rfl rfl (q_tn (z := 1443058439) rfl ?_)
              refine q_aload_n rfl rfl rfl ?_
              refine q_getf rfl rfl (by decide) rfl rfl ?_
              refine q_iload_n rfl rfl rfl ?_
              refine q_iald rfl rfl (by decide) rfl (by decide) (q_tn (z := 0) rfl ?_)
              refine q_iadd rfl rfl (q_tn (z := 1443058439) rfl ?_)
              refine q_ist2n rfl rfl rfl rfl ?_
              refine q_icc3 (z := 18) rfl rfl rfl rfl rfl ?_
              refine q_goto rfl ?_
              refine q_iload_n rfl rfl rfl ?_
              refine q_bipush rfl rfl ?_
              refine q_icge rfl rfl (fun c549 => absurd c549 (by decide)) (fun c549 => ?_)
              refine q_bipush rfl rfl ?_
              refine q_iload_n rfl rfl rfl ?_
              refine q_imul rfl rfl (q_tn (z := 1785138649) rfl ?_)
              refine q_aload_n rfl rfl rfl ?_
              refine q_getf rfl rfl (by decide) rfl rfl ?_
              refine q_iload_n rfl rfl rfl ?_
              refine q_iald rfl rfl (by decide) rfl (by decide) (q_tn (z := 0) rfl ?_)
              refine q_iadd rfl rfl (q_tn (z := 1785138649) rfl ?_)
              refine q_ist2n rfl rfl rfl rfl ?_
              refine q_icc3 (z := 19) rfl rfl rfl rfl rfl ?_
              refine q_goto rfl ?_
              refine q_iload_n rfl rfl rfl ?_
              refine q_bipush rfl rfl ?_
              refine q_icge rfl rfl (fun c550 => absurd c550 (by decide)) (fun c550 => ?_)
              refine q_bipush rfl rfl ?_
              refine q_iload_n rfl rfl rfl ?_
              refine q_imul rfl rfl (q_tn (z := (-495276729)) rfl ?_)
              refine q_aload_n rfl rfl rfl ?_
              refine q_getf rfl rfl (by decide) rfl rfl ?_
              refine q_iload_n rfl rfl rfl ?_
              refine q_iald rfl rfl (by decide) rfl (by decide) (q_tn (z := 0) rfl ?_)
              refine q_iadd rfl rfl (q_tn (z := (-495276729)) rfl ?_)
              refine q_ist2n rfl rfl rfl rfl ?_
              refine q_icc3 (z := 20) rfl rfl rfl rfl rfl ?_
              refine q_goto rfl ?_
              refine q_iload_n rfl rfl rfl ?_
              refine q_bipush rfl rfl ?_
              refine q_icge rfl rfl (fun c551 => ?_) (fun c551 => absurd (by decide) c551)
              refine q_sipush rfl rfl ?_
              refine q_iload_n rfl rfl rfl ?_
              refine q_imul rfl rfl (q_tn (z := 8192) rfl ?_)
              refine q_iload_n rfl rfl rfl ?_
              refine q_iload_n rfl rfl rfl ?_
              refine q_bipush rfl rfl ?_
              refine q_iushr rfl rfl (q_tn (z := 463829) rfl ?_)
              refine q_ixor rfl rfl (q_tn (z := (-495075694)) rfl ?_)
              refine q_sipush rfl rfl ?_
              refine q_irem rfl rfl (by decide) (q_tn (z := (-366)) rfl ?_)
              refine q_iload_n rfl rfl rfl ?_
              refine q_iload_n rfl rfl rfl ?_
              refine q_bipush rfl rfl ?_
              refine q_iushr rfl rfl (q_tn (z := 463829) rfl ?_)
              refine q_ixor rfl rfl (q_tn (z := (-495075694)) rfl ?_)
              refine q_sipush rfl rfl ?_
              refine q_irem rfl rfl (by decide) (q_tn (z := (-366)) rfl ?_)
              refine q_ifge rfl rfl (fun c552 => absurd c552 (by decide)) (fun c552 => ?_)
              refine q_iconst rfl rfl ?_
              refine q_goto rfl ?_
              refine q_imul rfl rfl (q_tn (z := 366) rfl ?_)
              refine q_iadd rfl rfl (q_tn (z := 8558) rfl ?_)
              refine q_iret rfl rfl trivial ?_
              refine ⟨_, rfl, ?_⟩
              refine q_ist6 rfl rfl rfl rfl ?_
              refine q_aload_n rfl rfl rfl ?_
              refine q_getf rfl rfl (by decide) rfl rfl ?_
              refine q_iload rfl rfl rfl ?_
              refine q_aload_n rfl rfl rfl ?_
              refine q_getf rfl rfl (by decide) rfl rfl ?_
              refine q_iload rfl rfl rfl ?_
              refine q_iald rfl rfl (by decide) rfl (by decide) (q_tn (z := (-1)) rfl ?_)
              refine q_iast rfl rfl (by decide) (FW_58 S hW) (by decide) ?_
              refine q_aload_n rfl rfl rfl ?_
              refine q_getf rfl rfl (by decide) rfl rfl ?_
              refine q_iload rfl rfl rfl ?_
              refine q_iload rfl rfl rfl ?_
              refine q_iast rfl rfl (by decide) rfl (by decide) ?_
              refine q_aload_n rfl rfl rfl ?_
              refine q_getf rfl rfl (by decide) rfl rfl ?_
              refine q_iload_n rfl rfl rfl ?_
              refine q_dup2 rfl rfl ?_
              refine q_iald rfl rfl (by decide) rfl (by decide) (q_tn (z := 0) rfl ?_)
              refine q_iconst rfl rfl ?_
              refine q_iadd rfl rfl (q_tn (z := 1) rfl ?_)
              refine q_iast rfl rfl (by decide) rfl (by decide) ?_
              refine q_iload rfl rfl rfl ?_
              refine q_iret rfl rfl trivial ?_
              refine ⟨_, rfl, ?_⟩
              refine q_ist3n rfl rfl rfl rfl ?_
              refine q_iconst rfl rfl ?_
              refine q_ist4 rfl rfl rfl rfl ?_
              refine q_iload rfl rfl rfl ?_
              refine q_aload_n rfl rfl rfl ?_
              refine q_getf rfl rfl (by decide) rfl rfl ?_
              refine q_iload_n rfl rfl rfl ?_
              refine q_iald rfl rfl (by decide) rfl (by decide) (q_tn (z := 1) rfl ?_)
              refine q_icge rfl rfl (fun c553 => absurd c553 (by decide)) (fun c553 => ?_)
              refine q_iconst rfl rfl ?_
              refine q_ist5 rfl rfl rfl rfl ?_
              refine q_iload rfl rfl rfl ?_
              refine q_iconst rfl rfl ?_
              refine q_icge rfl rfl (fun c554 => absurd c554 (by decide)) (fun c554 => ?_)
              refine q_iconst rfl rfl ?_
              refine q_sipush rfl rfl ?_
              refine q_iload_n rfl rfl rfl ?_
              refine q_imul rfl rfl (q_tn (z := 2000) rfl ?_)
              refine q_iload rfl rfl rfl ?_
              refine q_iadd rfl rfl (q_tn (z := 2000) rfl ?_)
              refine q_imul rfl rfl (q_tn (z := 6000) rfl ?_)
              refine q_iload rfl rfl rfl ?_
              refine q_iadd rfl rfl (q_tn (z := 6000) rfl ?_)
              refine q_ist6 rfl rfl rfl rfl ?_
              refine q_aload_n rfl rfl rfl ?_
              refine q_getf rfl rfl (by decide) rfl rfl ?_
              refine q_iload rfl rfl rfl ?_
              refine q_iconst rfl rfl ?_
              refine q_iast rfl rfl (by decide) (FW_59 S hW) (by decide) ?_
              refine q_aload_n rfl rfl rfl ?_
              refine q_iload_n rfl rfl rfl ?_
              refine q_iload rfl rfl rfl ?_
              refine q_cV2v rfl rfl (Or.inl rfl) rfl rfl rfl (by decide) rfl ⟨rfl, rfl⟩ rfl (fun K' hK' => l_sa (R := 1) (by decide) rfl (by decide) rfl rfl rfl rfl rfl hK') ?_
              refine q_iload rfl rfl rfl ?_
              refine q_aload_n rfl rfl rfl ?_
              refine q_getf rfl rfl (by decide) rfl rfl ?_
              refine q_icge rfl rfl (fun c555 => absurd c555 (by decide)) (fun c555 => ?_)
              refine q_aload_n rfl rfl rfl ?_
              refine q_iload rfl rfl rfl ?_
              refine q_iload_n rfl rfl rfl ?_
              refine q_nV2 rfl rfl (Or.inl rfl) rfl rfl rfl (by decide) rfl ⟨rfl, rfl⟩ rfl ?_
              change PQ _ _ _ mm_X12_maySteps 0 [.ref 46, .int 0, .int 2, pm_un, pm_un, pm_un] [] _ _ 0 0 _
              refine q_aload_n rfl rfl rfl ?_
              refine q_iload_n rfl rfl rfl ?_
              refine q_iload_n rfl rfl rfl ?_
              refine q_nV2 rfl rfl (Or.inl rfl) rfl rfl rfl (by decide) rfl ⟨rfl, rfl⟩ rfl ?_
              change PQ _ _ _ mm_X12_canStep 0 [.ref 46, .int 0, .int 2, pm_un] [] _ _ 0 0 _
              refine q_aload_n rfl rfl rfl ?_
              refine q_iload_n rfl rfl rfl ?_
              refine q_nV1 rfl rfl (Or.inl rfl) rfl rfl rfl (by decide) rfl ⟨rfl, rfl⟩ rfl ?_
              change PQ _ _ _ mm_X12_isOver 0 [.ref 46, .int 0] [] _ _ 0 0 _
              refine q_aload_n rfl rfl rfl ?_
              refine q_getf rfl rfl (by decide) rfl rfl ?_
              refine q_iconst rfl rfl ?_
              refine q_iload_n rfl rfl rfl ?_
              refine q_imul rfl rfl (q_tn (z := 0) rfl ?_)
              refine q_iald rfl rfl (by decide) rfl (by decide) (q_tn (z := 10) rfl ?_)
              refine q_bipush rfl rfl ?_
              refine q_iclt rfl rfl (fun c556 => absurd c556 (by decide)) (fun c556 => ?_)
              refine q_iconst rfl rfl ?_
              refine q_goto rfl ?_
              refine q_iret rfl rfl rfl ?_
              refine ⟨_, rfl, ?_⟩
              refine q_ifeq rfl rfl (fun c557 => absurd c557 (by decide)) (fun c557 => ?_)
              refine q_iconst rfl rfl ?_
              refine q_iret rfl rfl rfl ?_
              refine ⟨_, rfl, ?_⟩
              refine q_ifne rfl rfl (fun c558 => ?_) (fun c558 => absurd (by decide) c558)
              refine q_iconst rfl rfl ?_
              refine q_iret rfl rfl rfl ?_
              refine ⟨_, rfl, ?_⟩
              refine q_ifne rfl rfl (fun c559 => ?_) (fun c559 => absurd (by decide) c559)
              refine q_goto rfl ?_
              refine q_icc5 (z := 1) rfl rfl rfl rfl rfl ?_
              refine q_goto rfl ?_
              refine q_iload rfl rfl rfl ?_
              refine q_iconst rfl rfl ?_
              refine q_icge rfl rfl (fun c560 => absurd c560 (by decide)) (fun c560 => ?_)
              refine q_iconst rfl rfl ?_
              refine q_sipush rfl rfl ?_
              refine q_iload_n rfl rfl rfl ?_
              refine q_imul rfl rfl (q_tn (z := 2000) rfl ?_)
              refine q_iload rfl rfl rfl ?_
              refine q_iadd rfl rfl (q_tn (z := 2000) rfl ?_)
              refine q_imul rfl rfl (q_tn (z := 6000) rfl ?_)
              refine q_iload rfl rfl rfl ?_
              refine q_iadd rfl rfl (q_tn (z := 6001) rfl ?_)
              refine q_ist6 rfl rfl rfl rfl ?_
              refine q_aload_n rfl rfl rfl ?_
              refine q_getf rfl rfl (by decide) rfl rfl ?_
              refine q_iload rfl rfl rfl ?_
              refine q_iconst rfl rfl ?_
              refine q_iast rfl rfl (by decide) rfl (by decide) ?_
              refine q_aload_n rfl rfl rfl ?_
              refine q_iload_n rfl rfl rfl ?_
              refine q_iload rfl rfl rfl ?_
              refine q_cV2v rfl rfl (Or.inl rfl) rfl rfl rfl (by decide) rfl ⟨rfl, rfl⟩ rfl (fun K' hK' => l_sa (R := 1) (by decide) rfl (by decide) rfl rfl rfl rfl rfl hK') ?_
              refine q_iload rfl rfl rfl ?_
              refine q_aload_n rfl rfl rfl ?_
              refine q_getf rfl rfl (by decide) rfl rfl ?_
              refine q_icge rfl rfl (fun c561 => ?_) (fun c561 => absurd (by decide) c561)
              refine q_icc5 (z := 2) rfl rfl rfl rfl rfl ?_
              refine q_goto rfl ?_
              refine q_iload rfl rfl rfl ?_
              refine q_iconst rfl rfl ?_
              refine q_icge rfl rfl (fun c562 => absurd c562 (by decide)) (fun c562 => ?_)
              refine q_iconst rfl rfl ?_
              refine q_sipush rfl rfl ?_
              refine q_iload_n rfl rfl rfl ?_
              refine q_imul rfl rfl (q_tn (z := 2000) rfl ?_)
              refine q_iload rfl rfl rfl ?_
              refine q_iadd rfl rfl (q_tn (z := 2000) rfl ?_)
              refine q_imul rfl rfl (q_tn (z := 6000) rfl ?_)
              refine q_iload rfl rfl rfl ?_
              refine q_iadd rfl rfl (q_tn (z := 6002) rfl ?_)
              refine q_ist6 rfl rfl rfl rfl ?_
              refine q_aload_n rfl rfl rfl ?_
              refine q_getf rfl rfl (by decide) rfl rfl ?_
              refine q_iload rfl rfl rfl ?_
              refine q_iconst rfl rfl ?_
              refine q_iast rfl rfl (by decide) rfl (by decide) ?_
              refine q_aload_n rfl rfl rfl ?_
              refine q_iload_n rfl rfl rfl ?_
              refine q_iload rfl rfl rfl ?_
              refine q_cV2v rfl rfl (Or.inl rfl) rfl rfl rfl (by decide) rfl ⟨rfl, rfl⟩ rfl (fun K' hK' => l_sa (R := 1) (by decide) rfl (by decide) rfl rfl rfl rfl rfl hK') ?_
              refine q_iload rfl rfl rfl ?_
              refine q_aload_n rfl rfl rfl ?_
              refine q_getf rfl rfl (by decide) rfl rfl ?_
              refine q_icge rfl rfl (fun c563 => ?_) (fun c563 => absurd (by decide) c563)
              refine q_icc5 (z := 3) rfl rfl rfl rfl rfl ?_
              refine q_goto rfl ?_
              refine q_iload rfl rfl rfl ?_
              refine q_iconst rfl rfl ?_
              refine q_icge rfl rfl (fun c564 => ?_) (fun c564 => absurd (by decide) c564)
              refine q_icc4 (z := 1) rfl rfl rfl rfl rfl ?_
              refine q_goto rfl ?_
              refine q_iload rfl rfl rfl ?_
              refine q_aload_n rfl rfl rfl ?_
              refine q_getf rfl rfl (by decide) rfl rfl ?_
              refine q_iload_n rfl rfl rfl ?_
              refine q_iald rfl rfl (by decide) rfl (by decide) (q_tn (z := 1) rfl ?_)
              refine q_icge rfl rfl (fun c565 => ?_) (fun c565 => absurd (by decide) c565)
              refine q_iconst rfl rfl ?_
              refine q_iret rfl rfl rfl ?_
              refine ⟨_, rfl, ?_⟩
              refine q_ifeq rfl rfl (fun c566 => absurd c566 (by decide)) (fun c566 => ?_)
              refine q_iconst rfl rfl ?_
              refine q_goto rfl ?_
              refine q_iast rfl rfl (by decide) (FW_62 S hW) (by decide) ?_
              refine q_iload_n rfl rfl rfl ?_
              refine q_ifne rfl rfl (fun c567 => absurd c567 (by decide)) (fun c567 => ?_)
              refine q_aload_n rfl rfl rfl ?_
              refine q_getf rfl rfl (by decide) rfl rfl ?_
              refine q_iload_n rfl rfl rfl ?_
              refine q_aload_n rfl rfl rfl ?_
              refine q_getf rfl rfl (by decide) rfl rfl ?_
              refine q_iload_n rfl rfl rfl ?_
              refine q_iald rfl rfl (by decide) rfl (by decide) (q_tn (z := 1) rfl ?_)
              refine q_iast rfl rfl (by decide) (FW_63 S hW) (by decide) ?_
              refine q_iconst rfl rfl ?_
              refine q_ist3n rfl rfl rfl rfl ?_
              refine q_iload_n rfl rfl rfl ?_
              refine q_iconst rfl rfl ?_
              refine q_icge rfl rfl (fun c568 => absurd c568 (by decide)) (fun c568 => ?_)
              refine q_aload_n rfl rfl rfl ?_
              refine q_getf rfl rfl (by decide) rfl rfl ?_
              refine q_iconst rfl rfl ?_
              refine q_iload_n rfl rfl rfl ?_
              refine q_imul rfl rfl (q_tn (z := 8) rfl ?_)
              refine q_iload_n rfl rfl rfl ?_
              refine q_iadd rfl rfl (q_tn (z := 8) rfl ?_)
              refine q_iconst rfl rfl ?_
              refine q_iast rfl rfl (by decide) (FW_64 S hW) (by decide) ?_
              refine q_icc3 (z := 1) rfl rfl rfl rfl rfl ?_
              refine q_goto rfl ?_
              refine q_iload_n rfl rfl rfl ?_
              refine q_iconst rfl rfl ?_
              refine q_icge rfl rfl (fun c569 => absurd c569 (by decide)) (fun c569 => ?_)
              refine q_aload_n rfl rfl rfl ?_
              refine q_getf rfl rfl (by decide) rfl rfl ?_
              refine q_iconst rfl rfl ?_
              refine q_iload_n rfl rfl rfl ?_
              refine q_imul rfl rfl (q_tn (z := 8) rfl ?_)
              refine q_iload_n rfl rfl rfl ?_
              refine q_iadd rfl rfl (q_tn (z := 9) rfl ?_)
              refine q_iconst rfl rfl ?_
              refine q_iast rfl rfl (by decide) rfl (by decide) ?_
              refine q_icc3 (z := 2) rfl rfl rfl rfl rfl ?_
              refine q_goto rfl ?_
              refine q_iload_n rfl rfl rfl ?_
              refine q_iconst rfl rfl ?_
              refine q_icge rfl rfl (fun c570 => absurd c570 (by decide)) (fun c570 => ?_)
              refine q_aload_n rfl rfl rfl ?_
              refine q_getf rfl rfl (by decide) rfl rfl ?_
              refine q_iconst rfl rfl ?_
              refine q_iload_n rfl rfl rfl ?_
              refine q_imul rfl rfl (q_tn (z := 8) rfl ?_)
              refine q_iload_n rfl rfl rfl ?_
              refine q_iadd rfl rfl (q_tn (z := 10) rfl ?_)
              refine q_iconst rfl rfl ?_
              refine q_iast rfl rfl (by decide) rfl (by decide) ?_
              refine q_icc3 (z := 3) rfl rfl rfl rfl rfl ?_
              refine q_goto rfl ?_
              refine q_iload_n rfl rfl rfl ?_
              refine q_iconst rfl rfl ?_
              refine q_icge rfl rfl (fun c571 => absurd c571 (by decide)) (fun c571 => ?_)
              refine q_aload_n rfl rfl rfl ?_
              refine q_getf rfl rfl (by decide) rfl rfl ?_
              refine q_iconst rfl rfl ?_
              refine q_iload_n rfl rfl rfl ?_
              refine q_imul rfl rfl (q_tn (z := 8) rfl ?_)
              refine q_iload_n rfl rfl rfl ?_
              refine q_iadd rfl rfl (q_tn (z := 11) rfl ?_)
              refine q_iconst rfl rfl ?_
              refine q_iast rfl rfl (by decide) rfl (by decide) ?_
              refine q_icc3 (z := 4) rfl rfl rfl rfl rfl ?_
              refine q_goto rfl ?_
              refine q_iload_n rfl rfl rfl ?_
              refine q_iconst rfl rfl ?_
              refine q_icge rfl rfl (fun c572 => ?_) (fun c572 => absurd (by decide) c572)
              refine q_iconst rfl rfl ?_
              refine q_ist3n rfl rfl rfl rfl ?_
              refine q_iload_n rfl rfl rfl ?_
              refine q_aload_n rfl rfl rfl ?_
              refine q_getf rfl rfl (by decide) rfl rfl ?_
              refine q_iload_n rfl rfl rfl ?_
              refine q_iald rfl rfl (by decide) rfl (by decide) (q_tn (z := 1) rfl ?_)
              refine q_icge rfl rfl (fun c573 => absurd c573 (by decide)) (fun c573 => ?_)
              refine q_aload_n rfl rfl rfl ?_
              refine q_iload_n rfl rfl rfl ?_
              refine q_iload_n rfl rfl rfl ?_
              refine q_cV2v rfl rfl (Or.inl rfl) rfl rfl rfl (by decide) rfl ⟨rfl, rfl⟩ rfl (fun K' hK' => l_sa (R := 1) (by decide) rfl (by decide) rfl rfl rfl rfl rfl hK') ?_
              refine q_aload_n rfl rfl rfl ?_
              refine q_nV0 rfl rfl (Or.inl rfl) rfl rfl rfl (by decide) rfl ⟨rfl, rfl⟩ rfl ?_
              change PQ _ _ _ mm_X12_isEnd 0 [.ref 46, pm_un, pm_un] [] _ _ 0 0 _
              refine q_iconst rfl rfl ?_
              refine q_ist1n rfl rfl rfl rfl ?_
              refine q_iconst rfl rfl ?_
              refine q_ist2n rfl rfl rfl rfl ?_
              refine q_iload_n rfl rfl rfl ?_
              refine q_aload_n rfl rfl rfl ?_
              refine q_getf rfl rfl (by decide) rfl rfl ?_
              refine q_icge rfl rfl (fun c574 => absurd c574 (by decide)) (fun c574 => ?_)
              refine q_iload_n rfl rfl rfl ?_
              refine q_ifeq rfl rfl (fun c575 => absurd c575 (by decide)) (fun c575 => ?_)
              refine q_aload_n rfl rfl rfl ?_
              refine q_iload_n rfl rfl rfl ?_
              refine q_nV1 rfl rfl (Or.inl rfl) rfl rfl rfl (by decide) rfl ⟨rfl, rfl⟩ rfl ?_
              change PQ _ _ _ mm_X12_isOver 0 [.ref 46, .int 0] [] _ _ 0 0 _
              refine q_aload_n rfl rfl rfl ?_
              refine q_getf rfl rfl (by decide) rfl rfl ?_
              refine q_iconst rfl rfl ?_
              refine q_iload_n rfl rfl rfl ?_
              refine q_imul rfl rfl (q_tn (z := 0) rfl ?_)
              refine q_iald rfl rfl (by decide) rfl (by decide) (q_tn (z := 10) rfl ?_)
              refine q_bipush rfl rfl ?_
              refine q_iclt rfl rfl (fun c576 => absurd c576 (by decide)) (fun c576 => ?_)
              refine q_iconst rfl rfl ?_
              refine q_goto rfl ?_
              refine q_iret rfl rfl rfl ?_
              refine ⟨_, rfl, ?_⟩
              refine q_ifeq rfl rfl (fun c577 => absurd c577 (by decide)) (fun c577 => ?_)
              refine q_iconst rfl rfl ?_
              refine q_goto rfl ?_
              refine q_ist1n rfl rfl rfl rfl ?_
              refine q_icc2 (z := 1) rfl rfl rfl rfl rfl ?_
              refine q_goto rfl ?_
              refine q_iload_n rfl rfl rfl ?_
              refine q_aload_n rfl rfl rfl ?_
              refine q_getf rfl rfl (by decide) rfl rfl ?_
              refine q_icge rfl rfl (fun c578 => ?_) (fun c578 => absurd (by decide) c578)
              refine q_iload_n rfl rfl rfl ?_
              refine q_iret rfl rfl rfl ?_
              refine ⟨_, rfl, ?_⟩
              refine q_ifne rfl rfl (fun c579 => absurd c579 (by decide)) (fun c579 => ?_)
              refine q_iconst rfl rfl ?_
              refine q_ist4 rfl rfl rfl rfl ?_
              refine q_iload rfl rfl rfl ?_
              refine q_iconst rfl rfl ?_
              refine q_icge rfl rfl (fun c580 => absurd c580 (by decide)) (fun c580 => ?_)
              refine q_aload_n rfl rfl rfl ?_
              refine q_getf rfl rfl (by decide) rfl rfl ?_
              refine q_iconst rfl rfl ?_
              refine q_iload_n rfl rfl rfl ?_
              refine q_imul rfl rfl (q_tn (z := 8) rfl ?_)
              refine q_iload rfl rfl rfl ?_
              refine q_iadd rfl rfl (q_tn (z := 8) rfl ?_)
              refine q_dup2 rfl rfl ?_
              refine q_iald rfl rfl (by decide) rfl (by decide) (q_tn (z := 0) rfl ?_)
              refine q_iconst rfl rfl ?_
              refine q_aload_n rfl rfl rfl ?_
              refine q_getf rfl rfl (by decide) rfl rfl ?_
              refine q_bipush rfl rfl ?_
              refine q_iload rfl rfl rfl ?_
              refine q_iadd rfl rfl (q_tn (z := 12) rfl ?_)
              refine q_iald rfl rfl (by decide) rfl (by decide) (q_tn (z := 0) rfl ?_)
              refine q_ishl rfl rfl (q_tn (z := 1) rfl ?_)
              refine q_ior rfl rfl (q_tn (z := 1) rfl ?_)
              refine q_iast rfl rfl (by decide) rfl (by decide) ?_
              refine q_icc4 (z := 1) rfl rfl rfl rfl rfl ?_
              refine q_goto rfl ?_
              refine q_iload rfl rfl rfl ?_
              refine q_iconst rfl rfl ?_
              refine q_icge rfl rfl (fun c581 => absurd c581 (by decide)) (fun c581 => ?_)
              refine q_aload_n rfl rfl rfl ?_
              refine q_getf rfl rfl (by decide) rfl rfl ?_
              refine q_iconst rfl rfl ?_
              refine q_iload_n rfl rfl rfl ?_
              refine q_imul rfl rfl (q_tn (z := 8) rfl ?_)
              refine q_iload rfl rfl rfl ?_
              refine q_iadd rfl rfl (q_tn (z := 9) rfl ?_)
              refine q_dup2 rfl rfl ?_
              refine q_iald rfl rfl (by decide) rfl (by decide) (q_tn (z := 0) rfl ?_)
              refine q_iconst rfl rfl ?_
              refine q_aload_n rfl rfl rfl ?_
              refine q_getf rfl rfl (by decide) rfl rfl ?_
              refine q_bipush rfl rfl ?_
              refine q_iload rfl rfl rfl ?_
              refine q_iadd rfl rfl (q_tn (z := 13) rfl ?_)
              refine q_iald rfl rfl (by decide) rfl (by decide) (q_tn (z := 0) rfl ?_)
              refine q_ishl rfl rfl (q_tn (z := 1) rfl ?_)
              refine q_ior rfl rfl (q_tn (z := 1) rfl ?_)
              refine q_iast rfl rfl (by decide) rfl (by decide) ?_
              refine q_icc4 (z := 2) rfl rfl rfl rfl rfl ?_
              refine q_goto rfl ?_
              refine q_iload rfl rfl rfl ?_
              refine q_iconst rfl rfl ?_
              refine q_icge rfl rfl (fun c582 => absurd c582 (by decide)) (fun c582 => ?_)
              refine q_aload_n rfl rfl rfl ?_
              refine q_getf rfl rfl (by decide) rfl rfl ?_
              refine q_iconst rfl rfl ?_
              refine q_iload_n rfl rfl rfl ?_
              refine q_imul rfl rfl (q_tn (z := 8) rfl ?_)
              refine q_iload rfl rfl rfl ?_
              refine q_iadd rfl rfl (q_tn (z := 10) rfl ?_)
              refine q_dup2 rfl rfl ?_
              refine q_iald rfl rfl (by decide) rfl (by decide) (q_tn (z := 0) rfl ?_)
              refine q_iconst rfl rfl ?_
              refine q_aload_n rfl rfl rfl ?_
              refine q_getf rfl rfl (by decide) rfl rfl ?_
              refine q_bipush rfl rfl ?_
              refine q_iload rfl rfl rfl ?_
              refine q_iadd rfl rfl (q_tn (z := 14) rfl ?_)
              refine q_iald rfl rfl (by decide) rfl (by decide) (q_tn (z := 0) rfl ?_)
              refine q_ishl rfl rfl (q_tn (z := 1) rfl ?_)
              refine q_ior rfl rfl (q_tn (z := 1) rfl ?_)
              refine q_iast rfl rfl (by decide) rfl (by decide) ?_
              refine q_icc4 (z := 3) rfl rfl rfl rfl rfl ?_
              refine q_goto rfl ?_
              refine q_iload rfl rfl rfl ?_
              refine q_iconst rfl rfl ?_
              refine q_icge rfl rfl (fun c583 => absurd c583 (by decide)) (fun c583 => ?_)
              refine q_aload_n rfl rfl rfl ?_
              refine q_getf rfl rfl (by decide) rfl rfl ?_
              refine q_iconst rfl rfl ?_
              refine q_iload_n rfl rfl rfl ?_
              refine q_imul rfl rfl (q_tn (z := 8) rfl ?_)
              refine q_iload rfl rfl rfl ?_
              refine q_iadd rfl rfl (q_tn (z := 11) rfl ?_)
              refine q_dup2 rfl rfl ?_
              refine q_iald rfl rfl (by decide) rfl (by decide) (q_tn (z := 0) rfl ?_)
              refine q_iconst rfl rfl ?_
              refine q_aload_n rfl rfl rfl ?_
              refine q_getf rfl rfl (by decide) rfl rfl ?_
              refine q_bipush rfl rfl ?_
              refine q_iload rfl rfl rfl ?_
              refine q_iadd rfl rfl (q_tn (z := 15) rfl ?_)
              refine q_iald rfl rfl (by decide) rfl (by decide) (q_tn (z := 0) rfl ?_)
              refine q_ishl rfl rfl (q_tn (z := 1) rfl ?_)
              refine q_ior rfl rfl (q_tn (z := 1) rfl ?_)
              refine q_iast rfl rfl (by decide) rfl (by decide) ?_
              refine q_icc4 (z := 4) rfl rfl rfl rfl rfl ?_
              refine q_goto rfl ?_
              refine q_iload rfl rfl rfl ?_
              refine q_iconst rfl rfl ?_
              refine q_icge rfl rfl (fun c584 => ?_) (fun c584 => absurd (by decide) c584)
              refine q_icc3 (z := 1) rfl rfl rfl rfl rfl ?_
              refine q_goto rfl ?_
              refine q_iload_n rfl rfl rfl ?_
              refine q_aload_n rfl rfl rfl ?_
              refine q_getf rfl rfl (by decide) rfl rfl ?_
              refine q_iload_n rfl rfl rfl ?_
              refine q_iald rfl rfl (by decide) rfl (by decide) (q_tn (z := 1) rfl ?_)
              refine q_icge rfl rfl (fun c585 => ?_) (fun c585 => absurd (by decide) c585)
              refine q_aload_n rfl rfl rfl ?_
              refine q_getf rfl rfl (by decide) rfl rfl ?_
              refine q_iload_n rfl rfl rfl ?_
              refine q_iald rfl rfl (by decide) rfl (by decide) (q_tn (z := 1) rfl ?_)
              refine q_iconst rfl rfl ?_
              refine q_icne rfl rfl (fun c586 => absurd c586 (by decide)) (fun c586 => ?_)
              refine q_iconst rfl rfl ?_
              refine q_iret rfl rfl rfl ?_
              refine ⟨_, rfl, ?_⟩
              refine q_ifeq rfl rfl (fun c587 => ?_) (fun c587 => absurd (by decide) c587)
              refine q_aload_n rfl rfl rfl ?_
              refine q_getf rfl rfl (by decide) rfl rfl ?_
              refine q_iload_n rfl rfl rfl ?_
              refine q_iald rfl rfl (by decide) rfl (by decide) (q_tn (z := 1) rfl ?_)
              refine q_iret rfl rfl trivial ?_
              refine ⟨_, rfl, ?_⟩
              refine q_iceq rfl rfl (fun c588 => ?_) (fun c588 => absurd (by decide) c588)
              refine q_icc4 (z := 6) rfl rfl rfl rfl rfl ?_
              refine q_goto rfl ?_
              refine q_iload rfl rfl rfl ?_
              refine q_aload_nF rfl rfl rfl ?_
              refine q_alenX (x := 6) rfl rfl rfl ?_
              refine q_bipush rfl rfl ?_
              refine q_isub rfl rfl (q_tn (z := 0) rfl ?_)
              refine q_icgt rfl rfl (fun c589 => ?_) (fun c589 => absurd (by decide) c589)
              refine q_iconst rfl rfl ?_
              refine q_iret rfl rfl rfl ?_
              exact hK _ _
          · refine q_iload_n rfl rfl rfl ?_
            refine q_iret rfl rfl trivial ?_
            refine ⟨_, rfl, ?_⟩
            refine q_ist5 rfl rfl rfl rfl ?_
            refine q_iconst rfl rfl ?_
            refine q_ist6 rfl rfl rfl rfl ?_
            refine q_iload rfl rfl rfl ?_
            refine q_iconst rfl rfl ?_
            refine q_icge rfl rfl (fun c590 => absurd c590 (by decide)) (fun c590 => ?_)
            refine q_iconst rfl rfl ?_
            refine q_ist7 rfl rfl rfl rfl ?_
            refine q_iload rfl rfl rfl ?_
            refine q_iload rfl rfl rfl ?_
            refine q_iushr rfl rfl (q_tn (z := 0) rfl ?_)
            refine q_iconst rfl rfl ?_
            refine q_iand rfl rfl (q_tn (z := 0) rfl ?_)
            refine q_ifeq rfl rfl (fun c591 => ?_) (fun c591 => absurd (by decide) c591)
            refine q_aload_n rfl rfl rfl ?_
            refine q_getf rfl rfl (by decide) rfl rfl ?_
            refine q_iload_n rfl rfl rfl ?_
            refine q_iconst rfl rfl ?_
            refine q_imul rfl rfl (q_tn (z := 0) rfl ?_)
            refine q_iload rfl rfl rfl ?_
            refine q_iadd rfl rfl (q_tn (z := 0) rfl ?_)
            refine q_iload rfl rfl rfl ?_
            refine q_iast rfl rfl (by decide) (FW_21 S hW) (by decide) ?_
            refine q_icc6 (z := 1) rfl rfl rfl rfl rfl ?_
            refine q_goto rfl ?_
            refine q_iload rfl rfl rfl ?_
            refine q_iconst rfl rfl ?_
            refine q_icge rfl rfl (fun c592 => absurd c592 (by decide)) (fun c592 => ?_)
            refine q_iconst rfl rfl ?_
            refine q_ist7 rfl rfl rfl rfl ?_
            refine q_iload rfl rfl rfl ?_
            refine q_iload rfl rfl rfl ?_
            refine q_iushr rfl rfl (q_tn (z := 0) rfl ?_)
            refine q_iconst rfl rfl ?_
            refine q_iand rfl rfl (q_tn (z := 0) rfl ?_)
            refine q_ifeq rfl rfl (fun c593 => ?_) (fun c593 => absurd (by decide) c593)
            refine q_aload_n rfl rfl rfl ?_
            refine q_getf rfl rfl (by decide) rfl rfl ?_
            refine q_iload_n rfl rfl rfl ?_
            refine q_iconst rfl rfl ?_
            refine q_imul rfl rfl (q_tn (z := 0) rfl ?_)
            refine q_iload rfl rfl rfl ?_
            refine q_iadd rfl rfl (q_tn (z := 1) rfl ?_)
            refine q_iload rfl rfl rfl ?_
            refine q_iast rfl rfl (by decide) rfl (by decide) ?_
            refine q_icc6 (z := 2) rfl rfl rfl rfl rfl ?_
            refine q_goto rfl ?_
            refine q_iload rfl rfl rfl ?_
            refine q_iconst rfl rfl ?_
            refine q_icge rfl rfl (fun c594 => absurd c594 (by decide)) (fun c594 => ?_)
            refine q_iconst rfl rfl ?_
            refine q_ist7 rfl rfl rfl rfl ?_
            refine q_iload rfl rfl rfl ?_
            refine q_iload rfl rfl rfl ?_
            refine q_iushr rfl rfl (q_tn (z := 0) rfl ?_)
            refine q_iconst rfl rfl ?_
            refine q_iand rfl rfl (q_tn (z := 0) rfl ?_)
            refine q_ifeq rfl rfl (fun c595 => ?_) (fun c595 => absurd (by decide) c595)
            refine q_aload_n rfl rfl rfl ?_
            refine q_getf rfl rfl (by decide) rfl rfl ?_
            refine q_iload_n rfl rfl rfl ?_
            refine q_iconst rfl rfl ?_
            refine q_imul rfl rfl (q_tn (z := 0) rfl ?_)
            refine q_iload rfl rfl rfl ?_
            refine q_iadd rfl rfl (q_tn (z := 2) rfl ?_)
            refine q_iload rfl rfl rfl ?_
            refine q_iast rfl rfl (by decide) rfl (by decide) ?_
            refine q_icc6 (z := 3) rfl rfl rfl rfl rfl ?_
            refine q_goto rfl ?_
            refine q_iload rfl rfl rfl ?_
            refine q_iconst rfl rfl ?_
            refine q_icge rfl rfl (fun c596 => ?_) (fun c596 => absurd (by decide) c596)
            refine q_aload_n rfl rfl rfl ?_
            refine q_getf rfl rfl (by decide) rfl rfl ?_
            refine q_iload_n rfl rfl rfl ?_
            refine q_iload rfl rfl rfl ?_
            refine q_ifeq rfl rfl (fun c597 => ?_) (fun c597 => absurd (by decide) c597)
            refine q_aload_n rfl rfl rfl ?_
            refine q_lload_n rfl rfl rfl ?_
            refine q_nV1 rfl rfl (Or.inl rfl) rfl rfl rfl (by decide) rfl ⟨rfl, rfl⟩ rfl ?_
            change PQ _ _ _ mm_X6_isEnd 0 [.ref 7, .long 0, pm_un, pm_un] [] _ _ 0 0 _
            refine q_iconst rfl rfl ?_
            refine q_ist3n rfl rfl rfl rfl ?_
            refine q_iload_n rfl rfl rfl ?_
            refine q_aload_n rfl rfl rfl ?_
            refine q_getf rfl rfl (by decide) rfl rfl ?_
            refine q_getf rfl rfl (by decide) (FW_1 S hW) rfl ?_
            refine q_icge rfl rfl (fun c598 => absurd c598 (by decide)) (fun c598 => ?_)
            refine q_aload_n rfl rfl rfl ?_
            refine q_getf rfl rfl (by decide) rfl rfl ?_
            refine q_iload_n rfl rfl rfl ?_
            refine q_lload_n rfl rfl rfl ?_
            refine q_iload_n rfl rfl rfl ?_
            refine q_nS2 rfl rfl (Or.inl rfl) rfl rfl ⟨rfl, rfl⟩ rfl ?_
            change PQ _ _ _ mm_X0_position 0 [.long 0, pm_un, .int 0] [] _ _ 0 0 _
            refine q_lload_n rfl rfl rfl ?_
            refine q_bipush rfl rfl ?_
            refine q_iload_n rfl rfl rfl ?_
            refine q_imul rfl rfl (q_tn (z := 0) rfl ?_)
            refine q_lushr rfl rfl (q_tnl (z := 0) rfl ?_)
            refine q_l2i rfl rfl (q_tn (z := 0) rfl ?_)
            refine q_bipush rfl rfl ?_
            refine q_iand rfl rfl (q_tn (z := 0) rfl ?_)
            refine q_iret rfl rfl trivial ?_
            refine ⟨_, rfl, ?_⟩
            refine q_nV2 rfl rfl (Or.inl rfl) rfl rfl rfl (by decide) (FW_1 S hW) ⟨rfl, rfl⟩ rfl ?_
            change PQ _ _ _ mm_X8_cellOf 0 [.ref 1, .int 0, .int 0, pm_un] [] _ _ 0 0 _
            refine q_iload_n rfl rfl rfl ?_
            refine q_iflt rfl rfl (fun c599 => absurd c599 (by decide)) (fun c599 => ?_)
            refine q_iload_n rfl rfl rfl ?_
            refine q_aload_n rfl rfl rfl ?_
            refine q_getf rfl rfl (by decide) (FW_1 S hW) rfl ?_
            refine q_icge rfl rfl (fun c600 => absurd c600 (by decide)) (fun c600 => ?_)
            refine q_iload_n rfl rfl rfl ?_
            refine q_iflt rfl rfl (fun c601 => absurd c601 (by decide)) (fun c601 => ?_)
            refine q_iload_n rfl rfl rfl ?_
            refine q_aload_n rfl rfl rfl ?_
            refine q_getf rfl rfl (by decide) (FW_1 S hW) rfl ?_
            refine q_iload_n rfl rfl rfl ?_
            refine q_iald rfl rfl (by decide) (FW_3 S hW) (by decide) (q_tn (z := 0) rfl ?_)
            refine q_icge rfl rfl (fun c602 => ?_) (fun c602 => absurd (by decide) c602)
            refine q_iconst rfl rfl ?_
            refine q_ist3n rfl rfl rfl rfl ?_
            refine q_iload_n rfl rfl rfl ?_
            refine q_ifeq rfl rfl (fun c603 => ?_) (fun c603 => absurd (by decide) c603)
            refine q_iconst rfl rfl ?_
            refine q_iret rfl rfl trivial ?_
            refine ⟨_, rfl, ?_⟩
            refine q_iflt rfl rfl (fun c604 => ?_) (fun c604 => absurd (by decide) c604)
            refine q_icc3 (z := 1) rfl rfl rfl rfl rfl ?_
            refine q_goto rfl ?_
            refine q_iload_n rfl rfl rfl ?_
            refine q_aload_n rfl rfl rfl ?_
            refine q_getf rfl rfl (by decide) rfl rfl ?_
            refine q_getf rfl rfl (by decide) (FW_1 S hW) rfl ?_
            refine q_icge rfl rfl (fun c605 => ?_) (fun c605 => absurd (by decide) c605)
            refine q_iconst rfl rfl ?_
            refine q_iret rfl rfl rfl ?_
            refine ⟨_, rfl, ?_⟩
            refine q_ifeq rfl rfl (fun c606 => absurd c606 (by decide)) (fun c606 => ?_)
            refine q_iconst rfl rfl ?_
            refine q_goto rfl ?_
            refine q_iast rfl rfl (by decide) (FW_20 S hW) (by decide) ?_
            refine q_aload_n rfl rfl rfl ?_
            refine q_dupr rfl rfl ?_
            refine q_getf rfl rfl (by decide) rfl rfl ?_
            refine q_aload_n rfl rfl rfl ?_
            refine q_getf rfl rfl (by decide) rfl rfl ?_
            refine q_iload_n rfl rfl rfl ?_
            refine q_iald rfl rfl (by decide) rfl (by decide) (q_tn (z := 1) rfl ?_)
            refine q_iconst rfl rfl ?_
            refine q_iceq rfl rfl (fun c607 => absurd c607 (by decide)) (fun c607 => ?_)
            refine q_aload_n rfl rfl rfl ?_
            refine q_lload_n rfl rfl rfl ?_
            refine q_nV1 rfl rfl (Or.inl rfl) rfl rfl rfl (by decide) rfl ⟨rfl, rfl⟩ rfl ?_
            change PQ _ _ _ mm_X6_someFailed 0 [.ref 7, .long 0, pm_un, pm_un] [] _ _ 0 0 _
            refine q_iconst rfl rfl ?_
            refine q_ist3n rfl rfl rfl rfl ?_
            refine q_iload_n rfl rfl rfl ?_
            refine q_aload_n rfl rfl rfl ?_
            refine q_getf rfl rfl (by decide) rfl rfl ?_
            refine q_getf rfl rfl (by decide) (FW_1 S hW) rfl ?_
            refine q_icge rfl rfl (fun c608 => absurd c608 (by decide)) (fun c608 => ?_)
            refine q_lload_n rfl rfl rfl ?_
            refine q_iload_n rfl rfl rfl ?_
            refine q_nS2 rfl rfl (Or.inl rfl) rfl rfl ⟨rfl, rfl⟩ rfl ?_
            change PQ _ _ _ mm_X0_position 0 [.long 0, pm_un, .int 0] [] _ _ 0 0 _
            refine q_lload_n rfl rfl rfl ?_
            refine q_bipush rfl rfl ?_
            refine q_iload_n rfl rfl rfl ?_
            refine q_imul rfl rfl (q_tn (z := 0) rfl ?_)
            refine q_lushr rfl rfl (q_tnl (z := 0) rfl ?_)
            refine q_l2i rfl rfl (q_tn (z := 0) rfl ?_)
            refine q_bipush rfl rfl ?_
            refine q_iand rfl rfl (q_tn (z := 0) rfl ?_)
            refine q_iret rfl rfl trivial ?_
            refine ⟨_, rfl, ?_⟩
            refine q_bipush rfl rfl ?_
            refine q_icne rfl rfl (fun c609 => absurd c609 (by decide)) (fun c609 => ?_)
            refine q_icc3 (z := 1) rfl rfl rfl rfl rfl ?_
            refine q_goto rfl ?_
            refine q_iload_n rfl rfl rfl ?_
            refine q_aload_n rfl rfl rfl ?_
            refine q_getf rfl rfl (by decide) rfl rfl ?_
            refine q_getf rfl rfl (by decide) (FW_1 S hW) rfl ?_
            refine q_icge rfl rfl (fun c610 => ?_) (fun c610 => absurd (by decide) c610)
            refine q_iconst rfl rfl ?_
            refine q_iret rfl rfl rfl ?_
            refine ⟨_, rfl, ?_⟩
            refine q_ifeq rfl rfl (fun c611 => ?_) (fun c611 => absurd (by decide) c611)
            refine q_iconst rfl rfl ?_
            refine q_ior rfl rfl (q_tn (z := 0) rfl ?_)
            refine q_putf rfl rfl (by decide) rfl (by decide) rfl rfl ?_
            refine q_aload_n rfl rfl rfl ?_
            refine q_getf rfl rfl (by decide) rfl rfl ?_
            refine q_iload_n rfl rfl rfl ?_
            refine q_iald rfl rfl (by decide) rfl (by decide) (q_tn (z := 1) rfl ?_)
            refine q_iconst rfl rfl ?_
            refine q_icne rfl rfl (fun c612 => ?_) (fun c612 => absurd (by decide) c612)
            refine q_aload_n rfl rfl rfl ?_
            refine q_lload_n rfl rfl rfl ?_
            refine q_nV1v rfl rfl (Or.inl rfl) rfl rfl rfl (by decide) rfl ⟨rfl, rfl⟩ rfl ?_
            change PQ _ _ _ mm_X7_noteEnd 0 [.ref 16, .long 0, pm_un, pm_un] [] _ _ 0 0 _
            refine q_iconst rfl rfl ?_
            refine q_ist3n rfl rfl rfl rfl ?_
            refine q_iload_n rfl rfl rfl ?_
            refine q_iconst rfl rfl ?_
            refine q_icge rfl rfl (fun c613 => absurd c613 (by decide)) (fun c613 => ?_)
            refine q_aload_n rfl rfl rfl ?_
            refine q_dupr rfl rfl ?_
            refine q_getf rfl rfl (by decide) rfl rfl ?_
            refine q_lconst rfl rfl ?_
            refine q_bipush rfl rfl ?_
            refine q_iload_n rfl rfl rfl ?_
            refine q_imul rfl rfl (q_tn (z := 0) rfl ?_)
            refine q_lload_n rfl rfl rfl ?_
            refine q_iload_n rfl rfl rfl ?_
            refine q_nS2 rfl rfl (Or.inl rfl) rfl rfl ⟨rfl, rfl⟩ rfl ?_
            change PQ _ _ _ mm_X0_place 0 [.long 0, pm_un, .int 0] [] _ _ 0 0 _
            refine q_lload_n rfl rfl rfl ?_
            refine q_bipush rfl rfl ?_
            refine q_iconst rfl rfl ?_
            refine q_iload_n rfl rfl rfl ?_
            refine q_imul rfl rfl (q_tn (z := 0) rfl ?_)
            refine q_iadd rfl rfl (q_tn (z := 36) rfl ?_)
            refine q_lushr rfl rfl (q_tnl (z := 0) rfl ?_)
            refine q_l2i rfl rfl (q_tn (z := 0) rfl ?_)
            refine q_bipush rfl rfl ?_
            refine q_iand rfl rfl (q_tn (z := 0) rfl ?_)
            refine q_iret rfl rfl trivial ?_
            refine ⟨_, rfl, ?_⟩
            refine q_iadd rfl rfl (q_tn (z := 0) rfl ?_)
            refine q_lshl rfl rfl (q_tnl (z := 1) rfl ?_)
            refine q_lor rfl rfl (q_tnl (z := 1) rfl ?_)
            refine q_putf rfl rfl (by decide) rfl (by decide) rfl trivial ?_
            refine q_icc3 (z := 1) rfl rfl rfl rfl rfl ?_
            refine q_goto rfl ?_
            refine q_iload_n rfl rfl rfl ?_
            refine q_iconst rfl rfl ?_
            refine q_icge rfl rfl (fun c614 => absurd c614 (by decide)) (fun c614 => ?_)
            refine q_aload_n rfl rfl rfl ?_
            refine q_dupr rfl rfl ?_
            refine q_getf rfl rfl (by decide) rfl rfl ?_
            refine q_lconst rfl rfl ?_
            refine q_bipush rfl rfl ?_
            refine q_iload_n rfl rfl rfl ?_
            refine q_imul rfl rfl (q_tn (z := 10) rfl ?_)
            refine q_lload_n rfl rfl rfl ?_
            refine q_iload_n rfl rfl rfl ?_
            refine q_nS2 rfl rfl (Or.inl rfl) rfl rfl ⟨rfl, rfl⟩ rfl ?_
            change PQ _ _ _ mm_X0_place 0 [.long 0, pm_un, .int 1] [] _ _ 0 0 _
            refine q_lload_n rfl rfl rfl ?_
            refine q_bipush rfl rfl ?_
            refine q_iconst rfl rfl ?_
            refine q_iload_n rfl rfl rfl ?_
            refine q_imul rfl rfl (q_tn (z := 4) rfl ?_)
            refine q_iadd rfl rfl (q_tn (z := 40) rfl ?_)
            refine q_lushr rfl rfl (q_tnl (z := 0) rfl ?_)
            refine q_l2i rfl rfl (q_tn (z := 0) rfl ?_)
            refine q_bipush rfl rfl ?_
            refine q_iand rfl rfl (q_tn (z := 0) rfl ?_)
            refine q_iret rfl rfl trivial ?_
            refine ⟨_, rfl, ?_⟩
            refine q_iadd rfl rfl (q_tn (z := 10) rfl ?_)
            refine q_lshl rfl rfl (q_tnl (z := 1024) rfl ?_)
            refine q_lor rfl rfl (q_tnl (z := 1025) rfl ?_)
            refine q_putf rfl rfl (by decide) rfl (by decide) rfl trivial ?_
            refine q_icc3 (z := 2) rfl rfl rfl rfl rfl ?_
            refine q_goto rfl ?_
            refine q_iload_n rfl rfl rfl ?_
            refine q_iconst rfl rfl ?_
            refine q_icge rfl rfl (fun c615 => absurd c615 (by decide)) (fun c615 => ?_)
            refine q_aload_n rfl rfl rfl ?_
            refine q_dupr rfl rfl ?_
            refine q_getf rfl rfl (by decide) rfl rfl ?_
            refine q_lconst rfl rfl ?_
            refine q_bipush rfl rfl ?_
            refine q_iload_n rfl rfl rfl ?_
            refine q_imul rfl rfl (q_tn (z := 20) rfl ?_)
            refine q_lload_n rfl rfl rfl ?_
            refine q_iload_n rfl rfl rfl ?_
            refine q_nS2 rfl rfl (Or.inl rfl) rfl rfl ⟨rfl, rfl⟩ rfl ?_
            change PQ _ _ _ mm_X0_place 0 [.long 0, pm_un, .int 2] [] _ _ 0 0 _
            refine q_lload_n rfl rfl rfl ?_
            refine q_bipush rfl rfl ?_
            refine q_iconst rfl rfl ?_
            refine q_iload_n rfl rfl rfl ?_
            refine q_imul rfl rfl (q_tn (z := 8) rfl ?_)
            refine q_iadd rfl rfl (q_tn (z := 44) rfl ?_)
            refine q_lushr rfl rfl (q_tnl (z := 0) rfl ?_)
            refine q_l2i rfl rfl (q_tn (z := 0) rfl ?_)
            refine q_bipush rfl rfl ?_
            refine q_iand rfl rfl (q_tn (z := 0) rfl ?_)
            refine q_iret rfl rfl trivial ?_
            refine ⟨_, rfl, ?_⟩
            refine q_iadd rfl rfl (q_tn (z := 20) rfl ?_)
            refine q_lshl rfl rfl (q_tnl (z := 1048576) rfl ?_)
            refine q_lor rfl rfl (q_tnl (z := 1049601) rfl ?_)
            refine q_putf rfl rfl (by decide) rfl (by decide) rfl trivial ?_
            refine q_icc3 (z := 3) rfl rfl rfl rfl rfl ?_
            refine q_goto rfl ?_
            refine q_iload_n rfl rfl rfl ?_
            refine q_iconst rfl rfl ?_
            refine q_icge rfl rfl (fun c616 => absurd c616 (by decide)) (fun c616 => ?_)
            refine q_aload_n rfl rfl rfl ?_
            refine q_dupr rfl rfl ?_
            refine q_getf rfl rfl (by decide) rfl rfl ?_
            refine q_lconst rfl rfl ?_
            refine q_bipush rfl rfl ?_
            refine q_iload_n rfl rfl rfl ?_
            refine q_imul rfl rfl (q_tn (z := 30) rfl ?_)
            refine q_lload_n rfl rfl rfl ?_
            refine q_iload_n rfl rfl rfl ?_
            refine q_nS2 rfl rfl (Or.inl rfl) rfl rfl ⟨rfl, rfl⟩ rfl ?_
            change PQ _ _ _ mm_X0_place 0 [.long 0, pm_un, .int 3] [] _ _ 0 0 _
            refine q_lload_n rfl rfl rfl ?_
            refine q_bipush rfl rfl ?_
            refine q_iconst rfl rfl ?_
            refine q_iload_n rfl rfl rfl ?_
            refine q_imul rfl rfl (q_tn (z := 12) rfl ?_)
            refine q_iadd rfl rfl (q_tn (z := 48) rfl ?_)
            refine q_lushr rfl rfl (q_tnl (z := 0) rfl ?_)
            refine q_l2i rfl rfl (q_tn (z := 0) rfl ?_)
            refine q_bipush rfl rfl ?_
            refine q_iand rfl rfl (q_tn (z := 0) rfl ?_)
            refine q_iret rfl rfl trivial ?_
            refine ⟨_, rfl, ?_⟩
            refine q_iadd rfl rfl (q_tn (z := 30) rfl ?_)
            refine q_lshl rfl rfl (q_tnl (z := 1073741824) rfl ?_)
            refine q_lor rfl rfl (q_tnl (z := 1074791425) rfl ?_)
            refine q_putf rfl rfl (by decide) rfl (by decide) rfl trivial ?_
            refine q_icc3 (z := 4) rfl rfl rfl rfl rfl ?_
            refine q_goto rfl ?_
            refine q_iload_n rfl rfl rfl ?_
            refine q_iconst rfl rfl ?_
            refine q_icge rfl rfl (fun c617 => ?_) (fun c617 => absurd (by decide) c617)
            refine q_ret rfl rfl ?_
            refine ⟨rfl, ?_⟩
            refine q_ret rfl rfl ?_
            refine ⟨rfl, ?_⟩
            refine q_aload_n rfl rfl rfl ?_
            refine q_getf rfl rfl (by decide) rfl rfl ?_
            refine q_ifne rfl rfl (fun c618 => ?_) (fun c618 => absurd (by decide) c618)
            refine q_iload_n rfl rfl rfl ?_
            refine q_ifeq rfl rfl (fun c619 => ?_) (fun c619 => absurd (by decide) c619)
            refine q_icc3 (z := 1) rfl rfl rfl rfl rfl ?_
            refine q_goto rfl ?_
            refine q_iload_n rfl rfl rfl ?_
            refine q_sipush rfl rfl ?_
            refine q_icge rfl rfl (fun c620 => absurd c620 (by decide)) (fun c620 => ?_)
            refine q_iload_n rfl rfl rfl ?_
            refine q_aload_n rfl rfl rfl ?_
            refine q_getf rfl rfl (by decide) rfl rfl ?_
            refine q_icge rfl rfl (fun c621 => ?_) (fun c621 => absurd (by decide) c621)
            refine q_ret rfl rfl ?_
            refine ⟨rfl, ?_⟩
            refine q_aload_n rfl rfl rfl ?_
            refine q_getf rfl rfl (by decide) (FW_0 S hW) rfl ?_
            refine q_iconst rfl rfl ?_
            refine q_putf rfl rfl (by decide) rfl (Nat.lt_of_lt_of_le (Nat.lt_succ_self _) (Nat.le_of_ble_eq_true rfl)) rfl trivial ?_
            refine q_aload_n rfl rfl rfl ?_
            refine q_getf rfl rfl (by decide) (FW_0 S hW) rfl ?_
            refine q_iload_n rfl rfl rfl ?_
            refine q_aload_n rfl rfl rfl ?_
            refine q_getf rfl rfl (by decide) rfl rfl ?_
            refine q_ifeq rfl rfl (fun c622 => ?_) (fun c622 => absurd (by decide) c622)
            refine q_aload_n rfl rfl rfl ?_
            refine q_getf rfl rfl (by decide) rfl rfl ?_
            rcases i_en4 (i_ge_t (i_ltge (i_nle (fun q => c416 (Int32.le_antisymm q (i_ltge (i_nle (fun q => c244 (Int32.le_antisymm q (i_ltge (i_nle (fun q => c16 (Int32.le_antisymm q (i_nlt c1)))) (B := 1) rfl)))) (B := 2) rfl)))) (B := 3) rfl) rfl) (i_ltle (i_nle c7) (B := 4) rfl) with rfl | rfl | rfl | rfl | rfl
            · exact absurd (i_ltge (i_nle (fun q => c416 (Int32.le_antisymm q (i_ltge (i_nle (fun q => c244 (Int32.le_antisymm q (i_ltge (i_nle (fun q => c16 (Int32.le_antisymm q (i_nlt c1)))) (B := 1) rfl)))) (B := 2) rfl)))) (B := 3) rfl) (by decide)
            · exact absurd (i_ltge (i_nle (fun q => c416 (Int32.le_antisymm q (i_ltge (i_nle (fun q => c244 (Int32.le_antisymm q (i_ltge (i_nle (fun q => c16 (Int32.le_antisymm q (i_nlt c1)))) (B := 1) rfl)))) (B := 2) rfl)))) (B := 3) rfl) (by decide)
            · exact absurd (i_ltge (i_nle (fun q => c416 (Int32.le_antisymm q (i_ltge (i_nle (fun q => c244 (Int32.le_antisymm q (i_ltge (i_nle (fun q => c16 (Int32.le_antisymm q (i_nlt c1)))) (B := 1) rfl)))) (B := 2) rfl)))) (B := 3) rfl) (by decide)
            · refine q_iast rfl rfl (by decide) (FW_44 S hW) (by decide) ?_
              refine q_aload_n rfl rfl rfl ?_
              refine q_getf rfl rfl (by decide) (FW_0 S hW) rfl ?_
              refine q_iload_n rfl rfl rfl ?_
              refine q_aload_n rfl rfl rfl ?_
              refine q_getf rfl rfl (by decide) rfl rfl ?_
              refine q_last rfl rfl (by decide) (FW_45 S hW) (by decide) ?_
              refine q_aload_n rfl rfl rfl ?_
              refine q_getf rfl rfl (by decide) (FW_0 S hW) rfl ?_
              refine q_iload_n rfl rfl rfl ?_
              refine q_iald rfl rfl (by decide) rfl (by decide) (q_tn (z := 1) rfl ?_)
              refine q_iret rfl rfl trivial ?_
              refine ⟨_, rfl, ?_⟩
              refine q_goto rfl ?_
              refine q_iret rfl rfl trivial ?_
              refine ⟨_, rfl, ?_⟩
              refine q_aload_n rfl rfl rfl ?_
              refine q_aload_nF rfl rfl rfl ?_
              refine q_iload rfl rfl rfl ?_
              refine q_iconst rfl rfl ?_
              refine q_iadd rfl rfl (q_tn (z := 1) rfl ?_)
              refine q_ialdX (x := 3) rfl rfl rfl hx1 ?_
              refine q_nV1 rfl rfl (Or.inl rfl) rfl rfl rfl (by decide) (FW_46 S hW) ⟨rfl, rfl⟩ rfl ?_
              change PQ _ _ _ mm_X12_states 0 [.ref 46, .int 3] [] _ _ 0 0 _
              refine q_aload_n rfl rfl rfl ?_
              refine q_iload_n rfl rfl rfl ?_
              refine q_iconst rfl rfl ?_
              refine q_iconst rfl rfl ?_
              refine q_nV3 rfl rfl (Or.inl rfl) rfl rfl rfl (by decide) (FW_46 S hW) ⟨rfl, rfl⟩ rfl ?_
              change PQ _ _ _ mm_X12_in 0 [.ref 46, .int 3, .int 0, .int 4] [] _ _ 0 0 _
              refine q_iload_n rfl rfl rfl ?_
              refine q_iload_n rfl rfl rfl ?_
              refine q_iclt rfl rfl (fun c623 => absurd c623 (by decide)) (fun c623 => ?_)
              refine q_iload_n rfl rfl rfl ?_
              refine q_iload_n rfl rfl rfl ?_
              refine q_icgt rfl rfl (fun c624 => absurd c624 (by decide)) (fun c624 => ?_)
              refine q_iconst rfl rfl ?_
              refine q_goto rfl ?_
              refine q_iret rfl rfl rfl ?_
              refine ⟨_, rfl, ?_⟩
              refine q_ifne rfl rfl (fun c625 => absurd c625 (by decide)) (fun c625 => ?_)
              refine q_aload_n rfl rfl rfl ?_
              refine q_iload_n rfl rfl rfl ?_
              refine q_nV1 rfl rfl (Or.inl rfl) rfl rfl rfl (by decide) (FW_46 S hW) ⟨rfl, rfl⟩ rfl ?_
              change PQ _ _ _ mm_X12_isSpent 0 [.ref 46, .int 3, pm_un, pm_un, pm_un] [] _ _ 0 0 _
              refine q_iload_n rfl rfl rfl ?_
              refine q_ifne rfl rfl (fun c626 => absurd c626 (by decide)) (fun c626 => ?_)
              refine q_iconst rfl rfl ?_
              refine q_ist2n rfl rfl rfl rfl ?_
              refine q_aload_n rfl rfl rfl ?_
              refine q_iconst rfl rfl ?_
              refine q_putf rfl rfl (by decide) (FW_46 S hW) (by decide) rfl trivial ?_
              refine q_aload_n rfl rfl rfl ?_
              refine q_getf rfl rfl (by decide) rfl rfl ?_
              refine q_iload_n rfl rfl rfl ?_
              refine q_iald rfl rfl (by decide) (FW_62 S hW) (by decide) (q_tn (z := 0) rfl ?_)
              refine q_ifeq rfl rfl (fun c627 => ?_) (fun c627 => absurd (by decide) c627)
              refine q_aload_n rfl rfl rfl ?_
              refine q_getf rfl rfl (by decide) rfl rfl ?_
              refine q_iload_n rfl rfl rfl ?_
              refine q_aload_n rfl rfl rfl ?_
              refine q_iload_n rfl rfl rfl ?_
              refine q_iload_n rfl rfl rfl ?_
              refine q_nV2 rfl rfl (Or.inl rfl) rfl rfl rfl (by decide) rfl ⟨rfl, rfl⟩ rfl ?_
              change PQ _ _ _ mm_X12_explore 0 [.ref 46, .int 1, .int 3, pm_un, pm_un, pm_un, pm_un, pm_un] [] _ _ 0 0 _
              refine q_iconst rfl rfl ?_
              refine q_ist3n rfl rfl rfl rfl ?_
              refine l_net (R := 1) (by decide) rfl (by decide) rfl rfl (FW_61 S hW) ?_
              refine q_aload_n rfl rfl rfl ?_
              refine q_getf rfl rfl (by decide) rfl rfl ?_
              refine q_iload_n rfl rfl rfl ?_
              refine q_iconst rfl rfl ?_
              refine q_iast rfl rfl (by decide) (FW_60 S hW) (by decide) ?_
              refine q_aload_n rfl rfl rfl ?_
              refine q_nV0v rfl rfl (Or.inl rfl) rfl rfl rfl (by decide) rfl ⟨rfl, rfl⟩ rfl ?_
              change PQ _ _ _ mm_X12_firstState 0 [.ref 46, pm_un] [] _ _ 0 0 _
              refine q_iconst rfl rfl ?_
              refine q_ist1n rfl rfl rfl rfl ?_
              refine q_iload_n rfl rfl rfl ?_
              refine q_bipush rfl rfl ?_
              refine q_icge rfl rfl (fun c628 => absurd c628 (by decide)) (fun c628 => ?_)
              refine q_aload_n rfl rfl rfl ?_
              refine q_getf rfl rfl (by decide) rfl rfl ?_
              refine q_iload_n rfl rfl rfl ?_
              refine q_iconst rfl rfl ?_
              refine q_iast rfl rfl (by decide) (FW_52 S hW) (by decide) ?_
              refine q_icc1 (z := 1) rfl rfl rfl rfl rfl ?_
              refine q_goto rfl ?_
              refine q_iload_n rfl rfl rfl ?_
              refine q_bipush rfl rfl ?_
              refine q_icge rfl rfl (fun c629 => absurd c629 (by decide)) (fun c629 => ?_)
              refine q_aload_n rfl rfl rfl ?_
              refine q_getf rfl rfl (by decide) rfl rfl ?_
              refine q_iload_n rfl rfl rfl ?_
              refine q_iconst rfl rfl ?_
              refine q_iast rfl rfl (by decide) rfl (by decide) ?_
              refine q_icc1 (z := 2) rfl rfl rfl rfl rfl ?_
              refine q_goto rfl ?_
              refine q_iload_n rfl rfl rfl ?_
              refine q_bipush rfl rfl ?_
              refine q_icge rfl rfl (fun c630 => absurd c630 (by decide)) (fun c630 => ?_)
              refine q_aload_n rfl rfl rfl ?_
              refine q_getf rfl rfl (by decide) rfl rfl ?_
              refine q_iload_n rfl rfl rfl ?_
              refine q_iconst rfl rfl ?_
              refine q_iast rfl rfl (by decide) rfl (by decide) ?_
              refine q_icc1 (z := 3) rfl rfl rfl rfl rfl ?_
              refine q_goto rfl ?_
              refine q_iload_n rfl rfl rfl ?_
              refine q_bipush rfl rfl ?_
              refine q_icge rfl rfl (fun c631 => absurd c631 (by decide)) (fun c631 => ?_)
              refine q_aload_n rfl rfl rfl ?_
              refine q_getf rfl rfl (by decide) rfl rfl ?_
              refine q_iload_n rfl rfl rfl ?_
              refine q_iconst rfl rfl ?_
              refine q_iast rfl rfl (by decide) rfl (by decide) ?_
              refine q_icc1 (z := 4) rfl rfl rfl rfl rfl ?_
              refine q_goto rfl ?_
              refine q_iload_n rfl rfl rfl ?_
              refine q_bipush rfl rfl ?_
              refine q_icge rfl rfl (fun c632 => absurd c632 (by decide)) (fun c632 => ?_)
              refine q_aload_n rfl rfl rfl ?_
              refine q_getf rfl rfl (by decide) rfl rfl ?_
              refine q_iload_n rfl rfl rfl ?_
              refine q_iconst rfl rfl ?_
              refine q_iast rfl rfl (by decide) rfl (by decide) ?_
              refine q_icc1 (z := 5) rfl rfl rfl rfl rfl ?_
              refine q_goto rfl ?_
              refine q_iload_n rfl rfl rfl ?_
              refine q_bipush rfl rfl ?_
              refine q_icge rfl rfl (fun c633 => absurd c633 (by decide)) (fun c633 => ?_)
              refine q_aload_n rfl rfl rfl ?_
              refine q_getf rfl rfl (by decide) rfl rfl ?_
              refine q_iload_n rfl rfl rfl ?_
              refine q_iconst rfl rfl ?_
              refine q_iast rfl rfl (by decide) rfl (by decide) ?_
              refine q_icc1 (z := 6) rfl rfl rfl rfl rfl ?_
              refine q_goto rfl ?_
              refine q_iload_n rfl rfl rfl ?_
              refine q_bipush rfl rfl ?_
              refine q_icge rfl rfl (fun c634 => absurd c634 (by decide)) (fun c634 => ?_)
              refine q_aload_n rfl rfl rfl ?_
              refine q_getf rfl rfl (by decide) rfl rfl ?_
              refine q_iload_n rfl rfl rfl ?_
              refine q_iconst rfl rfl ?_
              refine q_iast rfl rfl (by decide) rfl (by decide) ?_
              refine q_icc1 (z := 7) rfl rfl rfl rfl rfl ?_
              refine q_goto rfl ?_
              refine q_iload_n rfl rfl rfl ?_
              refine q_bipush rfl rfl ?_
              refine q_icge rfl rfl (fun c635 => absurd c635 (by decide)) (fun c635 => ?_)
              refine q_aload_n rfl rfl rfl ?_
              refine q_getf rfl rfl (by decide) rfl rfl ?_
              refine q_iload_n rfl rfl rfl ?_
              refine q_iconst rfl rfl ?_
              refine q_iast rfl rfl (by decide) rfl (by decide) ?_
              refine q_icc1 (z := 8) rfl rfl rfl rfl rfl ?_
              refine q_goto rfl ?_
              refine q_iload_n rfl rfl rfl ?_
              refine q_bipush rfl rfl ?_
              refine q_icge rfl rfl (fun c636 => absurd c636 (by decide)) (fun c636 => ?_)
              refine q_aload_n rfl rfl rfl ?_
              refine q_getf rfl rfl (by decide) rfl rfl ?_
              refine q_iload_n rfl rfl rfl ?_
              refine q_iconst rfl rfl ?_
              refine q_iast rfl rfl (by decide) rfl (by decide) ?_
              refine q_icc1 (z := 9) rfl rfl rfl rfl rfl ?_
              refine q_goto rfl ?_
              refine q_iload_n rfl rfl rfl ?_
              refine q_bipush rfl rfl ?_
              refine q_icge rfl rfl (fun c637 => absurd c637 (by decide)) (fun c637 => ?_)
              refine q_aload_n rfl rfl rfl ?_
              refine q_getf rfl rfl (by decide) rfl rfl ?_
              refine q_iload_n rfl rfl rfl ?_
              refine q_iconst rfl rfl ?_
              refine q_iast rfl rfl (by decide) rfl (by decide) ?_
              refine q_icc1 (z := 10) rfl rfl rfl rfl rfl ?_
              refine q_goto rfl ?_
              refine q_iload_n rfl rfl rfl ?_
              refine q_bipush rfl rfl ?_
              refine q_icge rfl rfl (fun c638 => absurd c638 (by decide)) (fun c638 => ?_)
              refine q_aload_n rfl rfl rfl ?_
              refine q_getf rfl rfl (by decide) rfl rfl ?_
              refine q_iload_n rfl rfl rfl ?_
              refine q_iconst rfl rfl ?_
              refine q_iast rfl rfl (by decide) rfl (by decide) ?_
              refine q_icc1 (z := 11) rfl rfl rfl rfl rfl ?_
              refine q_goto rfl ?_
              refine q_iload_n rfl rfl rfl ?_
              refine q_bipush rfl rfl ?_
              refine q_icge rfl rfl (fun c639 => absurd c639 (by decide)) (fun c639 => ?_)
              refine q_aload_n rfl rfl rfl ?_
              refine q_getf rfl rfl (by decide) rfl rfl ?_
              refine q_iload_n rfl rfl rfl ?_
              refine q_iconst rfl rfl ?_
              refine q_iast rfl rfl (by decide) rfl (by decide) ?_
              refine q_icc1 (z := 12) rfl rfl rfl rfl rfl ?_
              refine q_goto rfl ?_
              refine q_iload_n rfl rfl rfl ?_
              refine q_bipush rfl rfl ?_
              refine q_icge rfl rfl (fun c640 => absurd c640 (by decide)) (fun c640 => ?_)
              refine q_aload_n rfl rfl rfl ?_
              refine q_getf rfl rfl (by decide) rfl rfl ?_
              refine q_iload_n rfl rfl rfl ?_
              refine q_iconst rfl rfl ?_
              refine q_iast rfl rfl (by decide) rfl (by decide) ?_
              refine q_icc1 (z := 13) rfl rfl rfl rfl rfl ?_
              refine q_goto rfl ?_
              refine q_iload_n rfl rfl rfl ?_
              refine q_bipush rfl rfl ?_
              refine q_icge rfl rfl (fun c641 => absurd c641 (by decide)) (fun c641 => ?_)
              refine q_aload_n rfl rfl rfl ?_
              refine q_getf rfl rfl (by decide) rfl rfl ?_
              refine q_iload_n rfl rfl rfl ?_
              refine q_iconst rfl rfl ?_
              refine q_iast rfl rfl (by decide) rfl (by decide) ?_
              refine q_icc1 (z := 14) rfl rfl rfl rfl rfl ?_
              refine q_goto rfl ?_
              refine q_iload_n rfl rfl rfl ?_
              refine q_bipush rfl rfl ?_
              refine q_icge rfl rfl (fun c642 => absurd c642 (by decide)) (fun c642 => ?_)
              refine q_aload_n rfl rfl rfl ?_
              refine q_getf rfl rfl (by decide) rfl rfl ?_
              refine q_iload_n rfl rfl rfl ?_
              refine q_iconst rfl rfl ?_
              refine q_iast rfl rfl (by decide) rfl (by decide) ?_
              refine q_icc1 (z := 15) rfl rfl rfl rfl rfl ?_
              refine q_goto rfl ?_
              refine q_iload_n rfl rfl rfl ?_
              refine q_bipush rfl rfl ?_
              refine q_icge rfl rfl (fun c643 => absurd c643 (by decide)) (fun c643 => ?_)
              refine q_aload_n rfl rfl rfl ?_
              refine q_getf rfl rfl (by decide) rfl rfl ?_
              refine q_iload_n rfl rfl rfl ?_
              refine q_iconst rfl rfl ?_
              refine q_iast rfl rfl (by decide) rfl (by decide) ?_
              refine q_icc1 (z := 16) rfl rfl rfl rfl rfl ?_
              refine q_goto rfl ?_
              refine q_iload_n rfl rfl rfl ?_
              refine q_bipush rfl rfl ?_
              refine q_icge rfl rfl (fun c644 => absurd c644 (by decide)) (fun c644 => ?_)
              refine q_aload_n rfl rfl rfl ?_
              refine q_getf rfl rfl (by decide) rfl rfl ?_
              refine q_iload_n rfl rfl rfl ?_
              refine q_iconst rfl rfl ?_
              refine q_iast rfl rfl (by decide) rfl (by decide) ?_
              refine q_icc1 (z := 17) rfl rfl rfl rfl rfl ?_
              refine q_goto rfl ?_
              refine q_iload_n rfl rfl rfl ?_
              refine q_bipush rfl rfl ?_
              refine q_icge rfl rfl (fun c645 => absurd c645 (by decide)) (fun c645 => ?_)
              refine q_aload_n rfl rfl rfl ?_
              refine q_getf rfl rfl (by decide) rfl rfl ?_
              refine q_iload_n rfl rfl rfl ?_
              refine q_iconst rfl rfl ?_
              refine q_iast rfl rfl (by decide) rfl (by decide) ?_
              refine q_icc1 (z := 18) rfl rfl rfl rfl rfl ?_
              refine q_goto rfl ?_
              refine q_iload_n rfl rfl rfl ?_
              refine q_bipush rfl rfl ?_
              refine q_icge rfl rfl (fun c646 => absurd c646 (by decide)) (fun c646 => ?_)
              refine q_aload_n rfl rfl rfl ?_
              refine q_getf rfl rfl (by decide) rfl rfl ?_
              refine q_iload_n rfl rfl rfl ?_
              refine q_iconst rfl rfl ?_
              refine q_iast rfl rfl (by decide) rfl (by decide) ?_
              refine q_icc1 (z := 19) rfl rfl rfl rfl rfl ?_
              refine q_goto rfl ?_
              refine q_iload_n rfl rfl rfl ?_
              refine q_bipush rfl rfl ?_
              refine q_icge rfl rfl (fun c647 => absurd c647 (by decide)) (fun c647 => ?_)
              refine q_aload_n rfl rfl rfl ?_
              refine q_getf rfl rfl (by decide) rfl rfl ?_
              refine q_iload_n rfl rfl rfl ?_
              refine q_iconst rfl rfl ?_
              refine q_iast rfl rfl (by decide) rfl (by decide) ?_
              refine q_icc1 (z := 20) rfl rfl rfl rfl rfl ?_
              refine q_goto rfl ?_
              refine q_iload_n rfl rfl rfl ?_
              refine q_bipush rfl rfl ?_
              refine q_icge rfl rfl (fun c648 => ?_) (fun c648 => absurd (by decide) c648)
              refine q_iconst rfl rfl ?_
              refine q_ist1n rfl rfl rfl rfl ?_
              refine q_iload_n rfl rfl rfl ?_
              refine q_aload_n rfl rfl rfl ?_
              refine q_getf rfl rfl (by decide) rfl rfl ?_
              refine q_icge rfl rfl (fun c649 => absurd c649 (by decide)) (fun c649 => ?_)
              refine q_aload_n rfl rfl rfl ?_
              refine q_getf rfl rfl (by decide) rfl rfl ?_
              refine q_iconst rfl rfl ?_
              refine q_iload_n rfl rfl rfl ?_
              refine q_imul rfl rfl (q_tn (z := 0) rfl ?_)
              refine q_aload_n rfl rfl rfl ?_
              refine q_getf rfl rfl (by decide) rfl rfl ?_
              refine q_aload_n rfl rfl rfl ?_
              refine q_getf rfl rfl (by decide) rfl rfl ?_
              refine q_iload_n rfl rfl rfl ?_
              refine q_iadd rfl rfl (q_tn (z := 0) rfl ?_)
              refine q_iald rfl rfl (by decide) (FW_47 S hW) (by decide) (q_tn (z := 0) rfl ?_)
              refine q_ifne rfl rfl (fun c650 => ?_) (fun c650 => absurd (by decide) c650)
              refine q_bipush rfl rfl ?_
              refine q_goto rfl ?_
              refine q_iast rfl rfl (by decide) rfl (by decide) ?_
              refine q_icc1 (z := 1) rfl rfl rfl rfl rfl ?_
              refine q_goto rfl ?_
              refine q_iload_n rfl rfl rfl ?_
              refine q_aload_n rfl rfl rfl ?_
              refine q_getf rfl rfl (by decide) rfl rfl ?_
              refine q_icge rfl rfl (fun c651 => ?_) (fun c651 => absurd (by decide) c651)
              refine q_iconst rfl rfl ?_
              refine q_ist1n rfl rfl rfl rfl ?_
              refine q_iload_n rfl rfl rfl ?_
              refine q_iconst rfl rfl ?_
              refine q_icge rfl rfl (fun c652 => absurd c652 (by decide)) (fun c652 => ?_)
              refine q_aload_n rfl rfl rfl ?_
              refine q_getf rfl rfl (by decide) rfl rfl ?_
              refine q_bipush rfl rfl ?_
              refine q_iload_n rfl rfl rfl ?_
              refine q_iadd rfl rfl (q_tn (z := 12) rfl ?_)
              refine q_aload_n rfl rfl rfl ?_
              refine q_getf rfl rfl (by decide) rfl rfl ?_
              refine q_iload_n rfl rfl rfl ?_
              refine q_iald rfl rfl (by decide) (FW_51 S hW) (by decide) (q_tn (z := 0) rfl ?_)
              refine q_iast rfl rfl (by decide) rfl (by decide) ?_
              refine q_icc1 (z := 1) rfl rfl rfl rfl rfl ?_
              refine q_goto rfl ?_
              refine q_iload_n rfl rfl rfl ?_
              refine q_iconst rfl rfl ?_
              refine q_icge rfl rfl (fun c653 => absurd c653 (by decide)) (fun c653 => ?_)
              refine q_aload_n rfl rfl rfl ?_
              refine q_getf rfl rfl (by decide) rfl rfl ?_
              refine q_bipush rfl rfl ?_
              refine q_iload_n rfl rfl rfl ?_
              refine q_iadd rfl rfl (q_tn (z := 13) rfl ?_)
              refine q_aload_n rfl rfl rfl ?_
              refine q_getf rfl rfl (by decide) rfl rfl ?_
              refine q_iload_n rfl rfl rfl ?_
              refine q_iald rfl rfl (by decide) (FW_51 S hW) (by decide) (q_tn (z := 0) rfl ?_)
              refine q_iast rfl rfl (by decide) rfl (by decide) ?_
              refine q_icc1 (z := 2) rfl rfl rfl rfl rfl ?_
              refine q_goto rfl ?_
              refine q_iload_n rfl rfl rfl ?_
              refine q_iconst rfl rfl ?_
              refine q_icge rfl rfl (fun c654 => absurd c654 (by decide)) (fun c654 => ?_)
              refine q_aload_n rfl rfl rfl ?_
              refine q_getf rfl rfl (by decide) rfl rfl ?_
              refine q_bipush rfl rfl ?_
              refine q_iload_n rfl rfl rfl ?_
              refine q_iadd rfl rfl (q_tn (z := 14) rfl ?_)
              refine q_aload_n rfl rfl rfl ?_
              refine q_getf rfl rfl (by decide) rfl rfl ?_
              refine q_iload_n rfl rfl rfl ?_
              refine q_iald rfl rfl (by decide) (FW_51 S hW) (by decide) (q_tn (z := 0) rfl ?_)
              refine q_iast rfl rfl (by decide) rfl (by decide) ?_
              refine q_icc1 (z := 3) rfl rfl rfl rfl rfl ?_
              refine q_goto rfl ?_
              refine q_iload_n rfl rfl rfl ?_
              refine q_iconst rfl rfl ?_
              refine q_icge rfl rfl (fun c655 => absurd c655 (by decide)) (fun c655 => ?_)
              refine q_aload_n rfl rfl rfl ?_
              refine q_getf rfl rfl (by decide) rfl rfl ?_
              refine q_bipush rfl rfl ?_
              refine q_iload_n rfl rfl rfl ?_
              refine q_iadd rfl rfl (q_tn (z := 15) rfl ?_)
              refine q_aload_n rfl rfl rfl ?_
              refine q_getf rfl rfl (by decide) rfl rfl ?_
              refine q_iload_n rfl rfl rfl ?_
              refine q_iald rfl rfl (by decide) (FW_51 S hW) (by decide) (q_tn (z := 0) rfl ?_)
              refine q_iast rfl rfl (by decide) rfl (by decide) ?_
              refine q_icc1 (z := 4) rfl rfl rfl rfl rfl ?_
              refine q_goto rfl ?_
              refine q_iload_n rfl rfl rfl ?_
              refine q_iconst rfl rfl ?_
              refine q_icge rfl rfl (fun c656 => ?_) (fun c656 => absurd (by decide) c656)
              refine q_ret rfl rfl ?_
              refine ⟨rfl, ?_⟩
              refine q_iconst rfl rfl ?_
              refine q_ist3n rfl rfl rfl rfl ?_
              refine q_iload_n rfl rfl rfl ?_
              refine q_bipush rfl rfl ?_
              refine q_icge rfl rfl (fun c657 => absurd c657 (by decide)) (fun c657 => ?_)
              refine q_aload_n rfl rfl rfl ?_
              refine q_getf rfl rfl (by decide) rfl rfl ?_
              refine q_iload_n rfl rfl rfl ?_
              refine q_aload_n rfl rfl rfl ?_
              refine q_getf rfl rfl (by decide) rfl rfl ?_
              refine q_iload_n rfl rfl rfl ?_
              refine q_iald rfl rfl (by decide) rfl (by decide) (q_tn (z := 10) rfl ?_)
              refine q_iast rfl rfl (by decide) (FW_53 S hW) (by decide) ?_
              refine q_icc3 (z := 1) rfl rfl rfl rfl rfl ?_
              refine q_goto rfl ?_
              refine q_iload_n rfl rfl rfl ?_
              refine q_bipush rfl rfl ?_
              refine q_icge rfl rfl (fun c658 => absurd c658 (by decide)) (fun c658 => ?_)
              refine q_aload_n rfl rfl rfl ?_
              refine q_getf rfl rfl (by decide) rfl rfl ?_
              refine q_iload_n rfl rfl rfl ?_
              refine q_aload_n rfl rfl rfl ?_
              refine q_getf rfl rfl (by decide) rfl rfl ?_
              refine q_iload_n rfl rfl rfl ?_
              refine q_iald rfl rfl (by decide) rfl (by decide) (q_tn (z := 0) rfl ?_)
              refine q_iast rfl rfl (by decide) rfl (by decide) ?_
              refine q_icc3 (z := 2) rfl rfl rfl rfl rfl ?_
              refine q_goto rfl ?_
              refine q_iload_n rfl rfl rfl ?_
              refine q_bipush rfl rfl ?_
              refine q_icge rfl rfl (fun c659 => absurd c659 (by decide)) (fun c659 => ?_)
              refine q_aload_n rfl rfl rfl ?_
              refine q_getf rfl rfl (by decide) rfl rfl ?_
              refine q_iload_n rfl rfl rfl ?_
              refine q_aload_n rfl rfl rfl ?_
              refine q_getf rfl rfl (by decide) rfl rfl ?_
              refine q_iload_n rfl rfl rfl ?_
              refine q_iald rfl rfl (by decide) rfl (by decide) (q_tn (z := 0) rfl ?_)
              refine q_iast rfl rfl (by decide) rfl (by decide) ?_
              refine q_icc3 (z := 3) rfl rfl rfl rfl rfl ?_
              refine q_goto rfl ?_
              refine q_iload_n rfl rfl rfl ?_
              refine q_bipush rfl rfl ?_
              refine q_icge rfl rfl (fun c660 => absurd c660 (by decide)) (fun c660 => ?_)
              refine q_aload_n rfl rfl rfl ?_
              refine q_getf rfl rfl (by decide) rfl rfl ?_
              refine q_iload_n rfl rfl rfl ?_
              refine q_aload_n rfl rfl rfl ?_
              refine q_getf rfl rfl (by decide) rfl rfl ?_
              refine q_iload_n rfl rfl rfl ?_
              refine q_iald rfl rfl (by decide) rfl (by decide) (q_tn (z := 0) rfl ?_)
              refine q_iast rfl rfl (by decide) rfl (by decide) ?_
              refine q_icc3 (z := 4) rfl rfl rfl rfl rfl ?_
              refine q_goto rfl ?_
              refine q_iload_n rfl rfl rfl ?_
              refine q_bipush rfl rfl ?_
              refine q_icge rfl rfl (fun c661 => absurd c661 (by decide)) (fun c661 => ?_)
              refine q_aload_n rfl rfl rfl ?_
              refine q_getf rfl rfl (by decide) rfl rfl ?_
              refine q_iload_n rfl rfl rfl ?_
              refine q_aload_n rfl rfl rfl ?_
              refine q_getf rfl rfl (by decide) rfl rfl ?_
              refine q_iload_n rfl rfl rfl ?_
              refine q_iald rfl rfl (by decide) rfl (by decide) (q_tn (z := 0) rfl ?_)
              refine q_iast rfl rfl (by decide) rfl (by decide) ?_
              refine q_icc3 (z := 5) rfl rfl rfl rfl rfl ?_
              refine q_goto rfl ?_
              refine q_iload_n rfl rfl rfl ?_
              refine q_bipush rfl rfl ?_
              refine q_icge rfl rfl (fun c662 => absurd c662 (by decide)) (fun c662 => ?_)
              refine q_aload_n rfl rfl rfl ?_
              refine q_getf rfl rfl (by decide) rfl rfl ?_
              refine q_iload_n rfl rfl rfl ?_
              refine q_aload_n rfl rfl rfl ?_
              refine q_getf rfl rfl (by decide) rfl rfl ?_
              refine q_iload_n rfl rfl rfl ?_
              refine q_iald rfl rfl (by decide) rfl (by decide) (q_tn (z := 0) rfl ?_)
              refine q_iast rfl rfl (by decide) rfl (by decide) ?_
              refine q_icc3 (z := 6) rfl rfl rfl rfl rfl ?_
              refine q_goto rfl ?_
              refine q_iload_n rfl rfl rfl ?_
              refine q_bipush rfl rfl ?_
              refine q_icge rfl rfl (fun c663 => absurd c663 (by decide)) (fun c663 => ?_)
              refine q_aload_n rfl rfl rfl ?_
              refine q_getf rfl rfl (by decide) rfl rfl ?_
              refine q_iload_n rfl rfl rfl ?_
              refine q_aload_n rfl rfl rfl ?_
              refine q_getf rfl rfl (by decide) rfl rfl ?_
              refine q_iload_n rfl rfl rfl ?_
              refine q_iald rfl rfl (by decide) rfl (by decide) (q_tn (z := 0) rfl ?_)
              refine q_iast rfl rfl (by decide) rfl (by decide) ?_
              refine q_icc3 (z := 7) rfl rfl rfl rfl rfl ?_
              refine q_goto rfl ?_
              refine q_iload_n rfl rfl rfl ?_
              refine q_bipush rfl rfl ?_
              refine q_icge rfl rfl (fun c664 => absurd c664 (by decide)) (fun c664 => ?_)
              refine q_aload_n rfl rfl rfl ?_
              refine q_getf rfl rfl (by decide) rfl rfl ?_
              refine q_iload_n rfl rfl rfl ?_
              refine q_aload_n rfl rfl rfl ?_
              refine q_getf rfl rfl (by decide) rfl rfl ?_
              refine q_iload_n rfl rfl rfl ?_
              refine q_iald rfl rfl (by decide) rfl (by decide) (q_tn (z := 0) rfl ?_)
              refine q_iast rfl rfl (by decide) rfl (by decide) ?_
              refine q_icc3 (z := 8) rfl rfl rfl rfl rfl ?_
              refine q_goto rfl ?_
              refine q_iload_n rfl rfl rfl ?_
              refine q_bipush rfl rfl ?_
              refine q_icge rfl rfl (fun c665 => absurd c665 (by decide)) (fun c665 => ?_)
              refine q_aload_n rfl rfl rfl ?_
              refine q_getf rfl rfl (by decide) rfl rfl ?_
              refine q_iload_n rfl rfl rfl ?_
              refine q_aload_n rfl rfl rfl ?_
              refine q_getf rfl rfl (by decide) rfl rfl ?_
              refine q_iload_n rfl rfl rfl ?_
              refine q_iald rfl rfl (by decide) rfl (by decide) (q_tn (z := 0) rfl ?_)
              refine q_iast rfl rfl (by decide) rfl (by decide) ?_
              refine q_icc3 (z := 9) rfl rfl rfl rfl rfl ?_
              refine q_goto rfl ?_
              refine q_iload_n rfl rfl rfl ?_
              refine q_bipush rfl rfl ?_
              refine q_icge rfl rfl (fun c666 => absurd c666 (by decide)) (fun c666 => ?_)
              refine q_aload_n rfl rfl rfl ?_
              refine q_getf rfl rfl (by decide) rfl rfl ?_
              refine q_iload_n rfl rfl rfl ?_
              refine q_aload_n rfl rfl rfl ?_
              refine q_getf rfl rfl (by decide) rfl rfl ?_
              refine q_iload_n rfl rfl rfl ?_
              refine q_iald rfl rfl (by decide) rfl (by decide) (q_tn (z := 0) rfl ?_)
              refine q_iast rfl rfl (by decide) rfl (by decide) ?_
              refine q_icc3 (z := 10) rfl rfl rfl rfl rfl ?_
              refine q_goto rfl ?_
              refine q_iload_n rfl rfl rfl ?_
              refine q_bipush rfl rfl ?_
              refine q_icge rfl rfl (fun c667 => absurd c667 (by decide)) (fun c667 => ?_)
              refine q_aload_n rfl rfl rfl ?_
              refine q_getf rfl rfl (by decide) rfl rfl ?_
              refine q_iload_n rfl rfl rfl ?_
              refine q_aload_n rfl rfl rfl ?_
              refine q_getf rfl rfl (by decide) rfl rfl ?_
              refine q_iload_n rfl rfl rfl ?_
              refine q_iald rfl rfl (by decide) rfl (by decide) (q_tn (z := 0) rfl ?_)
              refine q_iast rfl rfl (by decide) rfl (by decide) ?_
              refine q_icc3 (z := 11) rfl rfl rfl rfl rfl ?_
              refine q_goto rfl ?_
              refine q_iload_n rfl rfl rfl ?_
              refine q_bipush rfl rfl ?_
              refine q_icge rfl rfl (fun c668 => absurd c668 (by decide)) (fun c668 => ?_)
              refine q_aload_n rfl rfl rfl ?_
              refine q_getf rfl rfl (by decide) rfl rfl ?_
              refine q_iload_n rfl rfl rfl ?_
              refine q_aload_n rfl rfl rfl ?_
              refine q_getf rfl rfl (by decide) rfl rfl ?_
              refine q_iload_n rfl rfl rfl ?_
              refine q_iald rfl rfl (by decide) rfl (by decide) (q_tn (z := 0) rfl ?_)
              refine q_iast rfl rfl (by decide) rfl (by decide) ?_
              refine q_icc3 (z := 12) rfl rfl rfl rfl rfl ?_
              refine q_goto rfl ?_
              refine q_iload_n rfl rfl rfl ?_
              refine q_bipush rfl rfl ?_
              refine q_icge rfl rfl (fun c669 => absurd c669 (by decide)) (fun c669 => ?_)
              refine q_aload_n rfl rfl rfl ?_
              refine q_getf rfl rfl (by decide) rfl rfl ?_
              refine q_iload_n rfl rfl rfl ?_
              refine q_aload_n rfl rfl rfl ?_
              refine q_getf rfl rfl (by decide) rfl rfl ?_
              refine q_iload_n rfl rfl rfl ?_
              refine q_iald rfl rfl (by decide) rfl (by decide) (q_tn (z := 0) rfl ?_)
              refine q_iast rfl rfl (by decide) rfl (by decide) ?_
              refine q_icc3 (z := 13) rfl rfl rfl rfl rfl ?_
              refine q_goto rfl ?_
              refine q_iload_n rfl rfl rfl ?_
              refine q_bipush rfl rfl ?_
              refine q_icge rfl rfl (fun c670 => absurd c670 (by decide)) (fun c670 => ?_)
              refine q_aload_n rfl rfl rfl ?_
              refine q_getf rfl rfl (by decide) rfl rfl ?_
              refine q_iload_n rfl rfl rfl ?_
              refine q_aload_n rfl rfl rfl ?_
              refine q_getf rfl rfl (by decide) rfl rfl ?_
              refine q_iload_n rfl rfl rfl ?_
              refine q_iald rfl rfl (by decide) rfl (by decide) (q_tn (z := 0) rfl ?_)
              refine q_iast rfl rfl (by decide) rfl (by decide) ?_
              refine q_icc3 (z := 14) rfl rfl rfl rfl rfl ?_
              refine q_goto rfl ?_
              refine q_iload_n rfl rfl rfl ?_
              refine q_bipush rfl rfl ?_
              refine q_icge rfl rfl (fun c671 => absurd c671 (by decide)) (fun c671 => ?_)
              refine q_aload_n rfl rfl rfl ?_
              refine q_getf rfl rfl (by decide) rfl rfl ?_
              refine q_iload_n rfl rfl rfl ?_
              refine q_aload_n rfl rfl rfl ?_
              refine q_getf rfl rfl (by decide) rfl rfl ?_
              refine q_iload_n rfl rfl rfl ?_
              refine q_iald rfl rfl (by decide) rfl (by decide) (q_tn (z := 0) rfl ?_)
              refine q_iast rfl rfl (by decide) rfl (by decide) ?_
              refine q_icc3 (z := 15) rfl rfl rfl rfl rfl ?_
              refine q_goto rfl ?_
              refine q_iload_n rfl rfl rfl ?_
              refine q_bipush rfl rfl ?_
              refine q_icge rfl rfl (fun c672 => absurd c672 (by decide)) (fun c672 => ?_)
              refine q_aload_n rfl rfl rfl ?_
              refine q_getf rfl rfl (by decide) rfl rfl ?_
              refine q_iload_n rfl rfl rfl ?_
              refine q_aload_n rfl rfl rfl ?_
              refine q_getf rfl rfl (by decide) rfl rfl ?_
              refine q_iload_n rfl rfl rfl ?_
              refine q_iald rfl rfl (by decide) rfl (by decide) (q_tn (z := 0) rfl ?_)
              refine q_iast rfl rfl (by decide) rfl (by decide) ?_
              refine q_icc3 (z := 16) rfl rfl rfl rfl rfl ?_
              refine q_goto rfl ?_
              refine q_iload_n rfl rfl rfl ?_
              refine q_bipush rfl rfl ?_
              refine q_icge rfl rfl (fun c673 => absurd c673 (by decide)) (fun c673 => ?_)
              refine q_aload_n rfl rfl rfl ?_
              refine q_getf rfl rfl (by decide) rfl rfl ?_
              refine q_iload_n rfl rfl rfl ?_
              refine q_aload_n rfl rfl rfl ?_
              refine q_getf rfl rfl (by decide) rfl rfl ?_
              refine q_iload_n rfl rfl rfl ?_
              refine q_iald rfl rfl (by decide) rfl (by decide) (q_tn (z := 0) rfl ?_)
              refine q_iast rfl rfl (by decide) rfl (by decide) ?_
              refine q_icc3 (z := 17) rfl rfl rfl rfl rfl ?_
              refine q_goto rfl ?_
              refine q_iload_n rfl rfl rfl ?_
              refine q_bipush rfl rfl ?_
              refine q_icge rfl rfl (fun c674 => absurd c674 (by decide)) (fun c674 => ?_)
              refine q_aload_n rfl rfl rfl ?_
              refine q_getf rfl rfl (by decide) rfl rfl ?_
              refine q_iload_n rfl rfl rfl ?_
              refine q_aload_n rfl rfl rfl ?_
              refine q_getf rfl rfl (by decide) rfl rfl ?_
              refine q_iload_n rfl rfl rfl ?_
              refine q_iald rfl rfl (by decide) rfl (by decide) (q_tn (z := 0) rfl ?_)
              refine q_iast rfl rfl (by decide) rfl (by decide) ?_
              refine q_icc3 (z := 18) rfl rfl rfl rfl rfl ?_
              refine q_goto rfl ?_
              refine q_iload_n rfl rfl rfl ?_
              refine q_bipush rfl rfl ?_
              refine q_icge rfl rfl (fun c675 => absurd c675 (by decide)) (fun c675 => ?_)
              refine q_aload_n rfl rfl rfl ?_
              refine q_getf rfl rfl (by decide) rfl rfl ?_
              refine q_iload_n rfl rfl rfl ?_
              refine q_aload_n rfl rfl rfl ?_
              refine q_getf rfl rfl (by decide) rfl rfl ?_
              refine q_iload_n rfl rfl rfl ?_
              refine q_iald rfl rfl (by decide) rfl (by decide) (q_tn (z := 0) rfl ?_)
              refine q_iast rfl rfl (by decide) rfl (by decide) ?_
              refine q_icc3 (z := 19) rfl rfl rfl rfl rfl ?_
              refine q_goto rfl ?_
              refine q_iload_n rfl rfl rfl ?_
              refine q_bipush rfl rfl ?_
              refine q_icge rfl rfl (fun c676 => absurd c676 (by decide)) (fun c676 => ?_)
              refine q_aload_n rfl rfl rfl ?_
              refine q_getf rfl rfl (by decide) rfl rfl ?_
              refine q_iload_n rfl rfl rfl ?_
              refine q_aload_n rfl rfl rfl ?_
              refine q_getf rfl rfl (by decide) rfl rfl ?_
              refine q_iload_n rfl rfl rfl ?_
              refine q_iald rfl rfl (by decide) rfl (by decide) (q_tn (z := 0) rfl ?_)
              refine q_iast rfl rfl (by decide) rfl (by decide) ?_
              refine q_icc3 (z := 20) rfl rfl rfl rfl rfl ?_
              refine q_goto rfl ?_
              refine q_iload_n rfl rfl rfl ?_
              refine q_bipush rfl rfl ?_
              refine q_icge rfl rfl (fun c677 => ?_) (fun c677 => absurd (by decide) c677)
              refine q_aload_n rfl rfl rfl ?_
              refine q_iload_n rfl rfl rfl ?_
              refine q_iconst rfl rfl ?_
              refine q_iconst rfl rfl ?_
              refine q_nV3 rfl rfl (Or.inl rfl) rfl rfl rfl (by decide) rfl ⟨rfl, rfl⟩ rfl ?_
              change PQ _ _ _ mm_X12_put 0 [.ref 46, .int 1, .int (-1), .int (-1), pm_un, pm_un, pm_un] [] _ _ 0 0 _
              refine q_aload_n rfl rfl rfl ?_
              refine q_getf rfl rfl (by decide) rfl rfl ?_
              refine q_iload_n rfl rfl rfl ?_
              refine q_iald rfl rfl (by decide) rfl (by decide) (q_tn (z := 0) rfl ?_)
              refine q_ist4 rfl rfl rfl rfl ?_
              refine q_iload rfl rfl rfl ?_
              refine q_sipush rfl rfl ?_
              refine q_icne rfl rfl (fun c678 => absurd c678 (by decide)) (fun c678 => ?_)
              refine q_sipush rfl rfl ?_
              refine q_iload_n rfl rfl rfl ?_
              refine q_imul rfl rfl (q_tn (z := 2000) rfl ?_)
              refine q_iload rfl rfl rfl ?_
              refine q_iadd rfl rfl (q_tn (z := 2000) rfl ?_)
              refine q_ist5 rfl rfl rfl rfl ?_
              refine q_iconst rfl rfl ?_
              refine q_ist6 rfl rfl rfl rfl ?_
              refine q_iload rfl rfl rfl ?_
              refine q_bipush rfl rfl ?_
              refine q_icge rfl rfl (fun c679 => absurd c679 (by decide)) (fun c679 => ?_)
              refine q_aload_n rfl rfl rfl ?_
              refine q_getf rfl rfl (by decide) rfl rfl ?_
              refine q_bipush rfl rfl ?_
              refine q_iload rfl rfl rfl ?_
              refine q_imul rfl rfl (q_tn (z := 40000) rfl ?_)
              refine q_iload rfl rfl rfl ?_
              refine q_iadd rfl rfl (q_tn (z := 40000) rfl ?_)
              refine q_aload_n rfl rfl rfl ?_
              refine q_getf rfl rfl (by decide) rfl rfl ?_
              refine q_iload rfl rfl rfl ?_
              refine q_iald rfl rfl (by decide) rfl (by decide) (q_tn (z := 10) rfl ?_)
              refine q_iast rfl rfl (by decide) (FW_55 S hW) (by decide) ?_
              refine q_icc6 (z := 1) rfl rfl rfl rfl rfl ?_
              refine q_goto rfl ?_
              refine q_iload rfl rfl rfl ?_
              refine q_bipush rfl rfl ?_
              refine q_icge rfl rfl (fun c680 => absurd c680 (by decide)) (fun c680 => ?_)
              refine q_aload_n rfl rfl rfl ?_
              refine q_getf rfl rfl (by decide) rfl rfl ?_
              refine q_bipush rfl rfl ?_
              refine q_iload rfl rfl rfl ?_
              refine q_imul rfl rfl (q_tn (z := 40000) rfl ?_)
              refine q_iload rfl rfl rfl ?_
              refine q_iadd rfl rfl (q_tn (z := 40001) rfl ?_)
              refine q_aload_n rfl rfl rfl ?_
              refine q_getf rfl rfl (by decide) rfl rfl ?_
              refine q_iload rfl rfl rfl ?_
              refine q_iald rfl rfl (by decide) rfl (by decide) (q_tn (z := 0) rfl ?_)
              refine q_iast rfl rfl (by decide) rfl (by decide) ?_
              refine q_icc6 (z := 2) rfl rfl rfl rfl rfl ?_
              refine q_goto rfl ?_
              refine q_iload rfl rfl rfl ?_
              refine q_bipush rfl rfl ?_
              refine q_icge rfl rfl (fun c681 => absurd c681 (by decide)) (fun c681 => ?_)
              refine q_aload_n rfl rfl rfl ?_
              refine q_getf rfl rfl (by decide) rfl rfl ?_
              refine q_bipush rfl rfl ?_
              refine q_iload rfl rfl rfl ?_
              refine q_imul rfl rfl (q_tn (z := 40000) rfl ?_)
              refine q_iload rfl rfl rfl ?_
              refine q_iadd rfl rfl (q_tn (z := 40002) rfl ?_)
              refine q_aload_n rfl rfl rfl ?_
              refine q_getf rfl rfl (by decide) rfl rfl ?_
              refine q_iload rfl rfl rfl ?_
              refine q_iald rfl rfl (by decide) rfl (by decide) (q_tn (z := 0) rfl ?_)
              refine q_iast rfl rfl (by decide) rfl (by decide) ?_
              refine q_icc6 (z := 3) rfl rfl rfl rfl rfl ?_
              refine q_goto rfl ?_
              refine q_iload rfl rfl rfl ?_
              refine q_bipush rfl rfl ?_
              refine q_icge rfl rfl (fun c682 => absurd c682 (by decide)) (fun c682 => ?_)
              refine q_aload_n rfl rfl rfl ?_
              refine q_getf rfl rfl (by decide) rfl rfl ?_
              refine q_bipush rfl rfl ?_
              refine q_iload rfl rfl rfl ?_
              refine q_imul rfl rfl (q_tn (z := 40000) rfl ?_)
              refine q_iload rfl rfl rfl ?_
              refine q_iadd rfl rfl (q_tn (z := 40003) rfl ?_)
              refine q_aload_n rfl rfl rfl ?_
              refine q_getf rfl rfl (by decide) rfl rfl ?_
              refine q_iload rfl rfl rfl ?_
              refine q_iald rfl rfl (by decide) rfl (by decide) (q_tn (z := 0) rfl ?_)
              refine q_iast rfl rfl (by decide) rfl (by decide) ?_
              refine q_icc6 (z := 4) rfl rfl rfl rfl rfl ?_
              refine q_goto rfl ?_
              refine q_iload rfl rfl rfl ?_
              refine q_bipush rfl rfl ?_
              refine q_icge rfl rfl (fun c683 => absurd c683 (by decide)) (fun c683 => ?_)
              refine q_aload_n rfl rfl rfl ?_
              refine q_getf rfl rfl (by decide) rfl rfl ?_
              refine q_bipush rfl rfl ?_
              refine q_iload rfl rfl rfl ?_
              refine q_imul rfl rfl (q_tn (z := 40000) rfl ?_)
              refine q_iload rfl rfl rfl ?_
              refine q_iadd rfl rfl (q_tn (z := 40004) rfl ?_)
              refine q_aload_n rfl rfl rfl ?_
              refine q_getf rfl rfl (by decide) rfl rfl ?_
              refine q_iload rfl rfl rfl ?_
              refine q_iald rfl rfl (by decide) rfl (by decide) (q_tn (z := 0) rfl ?_)
              refine q_iast rfl rfl (by decide) rfl (by decide) ?_
              refine q_icc6 (z := 5) rfl rfl rfl rfl rfl ?_
              refine q_goto rfl ?_
              refine q_iload rfl rfl rfl ?_
              refine q_bipush rfl rfl ?_
              refine q_icge rfl rfl (fun c684 => absurd c684 (by decide)) (fun c684 => ?_)
              refine q_aload_n rfl rfl rfl ?_
              refine q_getf rfl rfl (by decide) rfl rfl ?_
              refine q_bipush rfl rfl ?_
              refine q_iload rfl rfl rfl ?_
              refine q_imul rfl rfl (q_tn (z := 40000) rfl ?_)
              refine q_iload rfl rfl rfl ?_
              refine q_iadd rfl rfl (q_tn (z := 40005) rfl ?_)
              refine q_aload_n rfl rfl rfl ?_
              refine q_getf rfl rfl (by decide) rfl rfl ?_
              refine q_iload rfl rfl rfl ?_
              refine q_iald rfl rfl (by decide) rfl (by decide) (q_tn (z := 0) rfl ?_)
              refine q_iast rfl rfl (by decide) rfl (by decide) ?_
              refine q_icc6 (z := 6) rfl rfl rfl rfl rfl ?_
              refine q_goto rfl ?_
              refine q_iload rfl rfl rfl ?_
              refine q_bipush rfl rfl ?_
              refine q_icge rfl rfl (fun c685 => absurd c685 (by decide)) (fun c685 => ?_)
              refine q_aload_n rfl rfl rfl ?_
              refine q_getf rfl rfl (by decide) rfl rfl ?_
              refine q_bipush rfl rfl ?_
              refine q_iload rfl rfl rfl ?_
              refine q_imul rfl rfl (q_tn (z := 40000) rfl ?_)
              refine q_iload rfl rfl rfl ?_
              refine q_iadd rfl rfl (q_tn (z := 40006) rfl ?_)
              refine q_aload_n rfl rfl rfl ?_
              refine q_getf rfl rfl (by decide) rfl rfl ?_
              refine q_iload rfl rfl rfl ?_
              refine q_iald rfl rfl (by decide) rfl (by decide) (q_tn (z := 0) rfl ?_)
              refine q_iast rfl rfl (by decide) rfl (by decide) ?_
              refine q_icc6 (z := 7) rfl rfl rfl rfl rfl ?_
              refine q_goto rfl ?_
              refine q_iload rfl rfl rfl ?_
              refine q_bipush rfl rfl ?_
              refine q_icge rfl rfl (fun c686 => absurd c686 (by decide)) (fun c686 => ?_)
              refine q_aload_n rfl rfl rfl ?_
              refine q_getf rfl rfl (by decide) rfl rfl ?_
              refine q_bipush rfl rfl ?_
              refine q_iload rfl rfl rfl ?_
              refine q_imul rfl rfl (q_tn (z := 40000) rfl ?_)
              refine q_iload rfl rfl rfl ?_
              refine q_iadd rfl rfl (q_tn (z := 40007) rfl ?_)
              refine q_aload_n rfl rfl rfl ?_
              refine q_getf rfl rfl (by decide) rfl rfl ?_
              refine q_iload rfl rfl rfl ?_
              refine q_iald rfl rfl (by decide) rfl (by decide) (q_tn (z := 0) rfl ?_)
              refine q_iast rfl rfl (by decide) rfl (by decide) ?_
              refine q_icc6 (z := 8) rfl rfl rfl rfl rfl ?_
              refine q_goto rfl ?_
              refine q_iload rfl rfl rfl ?_
              refine q_bipush rfl rfl ?_
              refine q_icge rfl rfl (fun c687 => absurd c687 (by decide)) (fun c687 => ?_)
              refine q_aload_n rfl rfl rfl ?_
              refine q_getf rfl rfl (by decide) rfl rfl ?_
              refine q_bipush rfl rfl ?_
              refine q_iload rfl rfl rfl ?_
              refine q_imul rfl rfl (q_tn (z := 40000) rfl ?_)
              refine q_iload rfl rfl rfl ?_
              refine q_iadd rfl rfl (q_tn (z := 40008) rfl ?_)
              refine q_aload_n rfl rfl rfl ?_
              refine q_getf rfl rfl (by decide) rfl rfl ?_
              refine q_iload rfl rfl rfl ?_
              refine q_iald rfl rfl (by decide) rfl (by decide) (q_tn (z := 0) rfl ?_)
              refine q_iast rfl rfl (by decide) rfl (by decide) ?_
              refine q_icc6 (z := 9) rfl rfl rfl rfl rfl ?_
              refine q_goto rfl ?_
              refine q_iload rfl rfl rfl ?_
              refine q_bipush rfl rfl ?_
              refine q_icge rfl rfl (fun c688 => absurd c688 (by decide)) (fun c688 => ?_)
              refine q_aload_n rfl rfl rfl ?_
              refine q_getf rfl rfl (by decide) rfl rfl ?_
              refine q_bipush rfl rfl ?_
              refine q_iload rfl rfl rfl ?_
              refine q_imul rfl rfl (q_tn (z := 40000) rfl ?_)
              refine q_iload rfl rfl rfl ?_
              refine q_iadd rfl rfl (q_tn (z := 40009) rfl ?_)
              refine q_aload_n rfl rfl rfl ?_
              refine q_getf rfl rfl (by decide) rfl rfl ?_
              refine q_iload rfl rfl rfl ?_
              refine q_iald rfl rfl (by decide) rfl (by decide) (q_tn (z := 0) rfl ?_)
              refine q_iast rfl rfl (by decide) rfl (by decide) ?_
              refine q_icc6 (z := 10) rfl rfl rfl rfl rfl ?_
              refine q_goto rfl ?_
              refine q_iload rfl rfl rfl ?_
              refine q_bipush rfl rfl ?_
              refine q_icge rfl rfl (fun c689 => absurd c689 (by decide)) (fun c689 => ?_)
              refine q_aload_n rfl rfl rfl ?_
              refine q_getf rfl rfl (by decide) rfl rfl ?_
              refine q_bipush rfl rfl ?_
              refine q_iload rfl rfl rfl ?_
              refine q_imul rfl rfl (q_tn (z := 40000) rfl ?_)
              refine q_iload rfl rfl rfl ?_
              refine q_iadd rfl rfl (q_tn (z := 40010) rfl ?_)
              refine q_aload_n rfl rfl rfl ?_
              refine q_getf rfl rfl (by decide) rfl rfl ?_
              refine q_iload rfl rfl rfl ?_
              refine q_iald rfl rfl (by decide) rfl (by decide) (q_tn (z := 0) rfl ?_)
              refine q_iast rfl rfl (by decide) rfl (by decide) ?_
              refine q_icc6 (z := 11) rfl rfl rfl rfl rfl ?_
              refine q_goto rfl ?_
              refine q_iload rfl rfl rfl ?_
              refine q_bipush rfl rfl ?_
              refine q_icge rfl rfl (fun c690 => absurd c690 (by decide)) (fun c690 => ?_)
              refine q_aload_n rfl rfl rfl ?_
              refine q_getf rfl rfl (by decide) rfl rfl ?_
              refine q_bipush rfl rfl ?_
              refine q_iload rfl rfl rfl ?_
              refine q_imul rfl rfl (q_tn (z := 40000) rfl ?_)
              refine q_iload rfl rfl rfl ?_
              refine q_iadd rfl rfl (q_tn (z := 40011) rfl ?_)
              refine q_aload_n rfl rfl rfl ?_
              refine q_getf rfl rfl (by decide) rfl rfl ?_
              refine q_iload rfl rfl rfl ?_
              refine q_iald rfl rfl (by decide) rfl (by decide) (q_tn (z := 0) rfl ?_)
              refine q_iast rfl rfl (by decide) rfl (by decide) ?_
              refine q_icc6 (z := 12) rfl rfl rfl rfl rfl ?_
              refine q_goto rfl ?_
              refine q_iload rfl rfl rfl ?_
              refine q_bipush rfl rfl ?_
              refine q_icge rfl rfl (fun c691 => absurd c691 (by decide)) (fun c691 => ?_)
              refine q_aload_n rfl rfl rfl ?_
              refine q_getf rfl rfl (by decide) rfl rfl ?_
              refine q_bipush rfl rfl ?_
              refine q_iload rfl rfl rfl ?_
              refine q_imul rfl rfl (q_tn (z := 40000) rfl ?_)
              refine q_iload rfl rfl rfl ?_
              refine q_iadd rfl rfl (q_tn (z := 40012) rfl ?_)
              refine q_aload_n rfl rfl rfl ?_
              refine q_getf rfl rfl (by decide) rfl rfl ?_
              refine q_iload rfl rfl rfl ?_
              refine q_iald rfl rfl (by decide) rfl (by decide) (q_tn (z := 0) rfl ?_)
              refine q_iast rfl rfl (by decide) rfl (by decide) ?_
              refine q_icc6 (z := 13) rfl rfl rfl rfl rfl ?_
              refine q_goto rfl ?_
              refine q_iload rfl rfl rfl ?_
              refine q_bipush rfl rfl ?_
              refine q_icge rfl rfl (fun c692 => absurd c692 (by decide)) (fun c692 => ?_)
              refine q_aload_n rfl rfl rfl ?_
              refine q_getf rfl rfl (by decide) rfl rfl ?_
              refine q_bipush rfl rfl ?_
              refine q_iload rfl rfl rfl ?_
              refine q_imul rfl rfl (q_tn (z := 40000) rfl ?_)
              refine q_iload rfl rfl rfl ?_
              refine q_iadd rfl rfl (q_tn (z := 40013) rfl ?_)
              refine q_aload_n rfl rfl rfl ?_
              refine q_getf rfl rfl (by decide) rfl rfl ?_
              refine q_iload rfl rfl rfl ?_
              refine q_iald rfl rfl (by decide) rfl (by decide) (q_tn (z := 0) rfl ?_)
              refine q_iast rfl rfl (by decide) rfl (by decide) ?_
              refine q_icc6 (z := 14) rfl rfl rfl rfl rfl ?_
              refine q_goto rfl ?_
              refine q_iload rfl rfl rfl ?_
              refine q_bipush rfl rfl ?_
              refine q_icge rfl rfl (fun c693 => absurd c693 (by decide)) (fun c693 => ?_)
              refine q_aload_n rfl rfl rfl ?_
              refine q_getf rfl rfl (by decide) rfl rfl ?_
              refine q_bipush rfl rfl ?_
              refine q_iload rfl rfl rfl ?_
              refine q_imul rfl rfl (q_tn (z := 40000) rfl ?_)
              refine q_iload rfl rfl rfl ?_
              refine q_iadd rfl rfl (q_tn (z := 40014) rfl ?_)
              refine q_aload_n rfl rfl rfl ?_
              refine q_getf rfl rfl (by decide) rfl rfl ?_
              refine q_iload rfl rfl rfl ?_
              refine q_iald rfl rfl (by decide) rfl (by decide) (q_tn (z := 0) rfl ?_)
              refine q_iast rfl rfl (by decide) rfl (by decide) ?_
              refine q_icc6 (z := 15) rfl rfl rfl rfl rfl ?_
              refine q_goto rfl ?_
              refine q_iload rfl rfl rfl ?_
              refine q_bipush rfl rfl ?_
              refine q_icge rfl rfl (fun c694 => absurd c694 (by decide)) (fun c694 => ?_)
              refine q_aload_n rfl rfl rfl ?_
              refine q_getf rfl rfl (by decide) rfl rfl ?_
              refine q_bipush rfl rfl ?_
              refine q_iload rfl rfl rfl ?_
              refine q_imul rfl rfl (q_tn (z := 40000) rfl ?_)
              refine q_iload rfl rfl rfl ?_
              refine q_iadd rfl rfl (q_tn (z := 40015) rfl ?_)
              refine q_aload_n rfl rfl rfl ?_
              refine q_getf rfl rfl (by decide) rfl rfl ?_
              refine q_iload rfl rfl rfl ?_
              refine q_iald rfl rfl (by decide) rfl (by decide) (q_tn (z := 0) rfl ?_)
              refine q_iast rfl rfl (by decide) rfl (by decide) ?_
              refine q_icc6 (z := 16) rfl rfl rfl rfl rfl ?_
              refine q_goto rfl ?_
              refine q_iload rfl rfl rfl ?_
              refine q_bipush rfl rfl ?_
              refine q_icge rfl rfl (fun c695 => absurd c695 (by decide)) (fun c695 => ?_)
              refine q_aload_n rfl rfl rfl ?_
              refine q_getf rfl rfl (by decide) rfl rfl ?_
              refine q_bipush rfl rfl ?_
              refine q_iload rfl rfl rfl ?_
              refine q_imul rfl rfl (q_tn (z := 40000) rfl ?_)
              refine q_iload rfl rfl rfl ?_
              refine q_iadd rfl rfl (q_tn (z := 40016) rfl ?_)
              refine q_aload_n rfl rfl rfl ?_
              refine q_getf rfl rfl (by decide) rfl rfl ?_
              refine q_iload rfl rfl rfl ?_
              refine q_iald rfl rfl (by decide) rfl (by decide) (q_tn (z := 0) rfl ?_)
              refine q_iast rfl rfl (by decide) rfl (by decide) ?_
              refine q_icc6 (z := 17) rfl rfl rfl rfl rfl ?_
              refine q_goto rfl ?_
              refine q_iload rfl rfl rfl ?_
              refine q_bipush rfl rfl ?_
              refine q_icge rfl rfl (fun c696 => absurd c696 (by decide)) (fun c696 => ?_)
              refine q_aload_n rfl rfl rfl ?_
              refine q_getf rfl rfl (by decide) rfl rfl ?_
              refine q_bipush rfl rfl ?_
              refine q_iload rfl rfl rfl ?_
              refine q_imul rfl rfl (q_tn (z := 40000) rfl ?_)
              refine q_iload rfl rfl rfl ?_
              refine q_iadd rfl rfl (q_tn (z := 40017) rfl ?_)
              refine q_aload_n rfl rfl rfl ?_
              refine q_getf rfl rfl (by decide) rfl rfl ?_
              refine q_iload rfl rfl rfl ?_
              refine q_iald rfl rfl (by decide) rfl (by decide) (q_tn (z := 0) rfl ?_)
              refine q_iast rfl rfl (by decide) rfl (by decide) ?_
              refine q_icc6 (z := 18) rfl rfl rfl rfl rfl ?_
              refine q_goto rfl ?_
              refine q_iload rfl rfl rfl ?_
              refine q_bipush rfl rfl ?_
              refine q_icge rfl rfl (fun c697 => absurd c697 (by decide)) (fun c697 => ?_)
              refine q_aload_n rfl rfl rfl ?_
              refine q_getf rfl rfl (by decide) rfl rfl ?_
              refine q_bipush rfl rfl ?_
              refine q_iload rfl rfl rfl ?_
              refine q_imul rfl rfl (q_tn (z := 40000) rfl ?_)
              refine q_iload rfl rfl rfl ?_
              refine q_iadd rfl rfl (q_tn (z := 40018) rfl ?_)
              refine q_aload_n rfl rfl rfl ?_
              refine q_getf rfl rfl (by decide) rfl rfl ?_
              refine q_iload rfl rfl rfl ?_
              refine q_iald rfl rfl (by decide) rfl (by decide) (q_tn (z := 0) rfl ?_)
              refine q_iast rfl rfl (by decide) rfl (by decide) ?_
              refine q_icc6 (z := 19) rfl rfl rfl rfl rfl ?_
              refine q_goto rfl ?_
              refine q_iload rfl rfl rfl ?_
              refine q_bipush rfl rfl ?_
              refine q_icge rfl rfl (fun c698 => absurd c698 (by decide)) (fun c698 => ?_)
              refine q_aload_n rfl rfl rfl ?_
              refine q_getf rfl rfl (by decide) rfl rfl ?_
              refine q_bipush rfl rfl ?_
              refine q_iload rfl rfl rfl ?_
              refine q_imul rfl rfl (q_tn (z := 40000) rfl ?_)
              refine q_iload rfl rfl rfl ?_
              refine q_iadd rfl rfl (q_tn (z := 40019) rfl ?_)
              refine q_aload_n rfl rfl rfl ?_
              refine q_getf rfl rfl (by decide) rfl rfl ?_
              refine q_iload rfl rfl rfl ?_
              refine q_iald rfl rfl (by decide) rfl (by decide) (q_tn (z := 0) rfl ?_)
              refine q_iast rfl rfl (by decide) rfl (by decide) ?_
              refine q_icc6 (z := 20) rfl rfl rfl rfl rfl ?_
              refine q_goto rfl ?_
              refine q_iload rfl rfl rfl ?_
              refine q_bipush rfl rfl ?_
              refine q_icge rfl rfl (fun c699 => ?_) (fun c699 => absurd (by decide) c699)
              refine q_aload_n rfl rfl rfl ?_
              refine q_getf rfl rfl (by decide) rfl rfl ?_
              refine q_iload rfl rfl rfl ?_
              refine q_iload_n rfl rfl rfl ?_
              refine q_iast rfl rfl (by decide) (FW_56 S hW) (by decide) ?_
              refine q_aload_n rfl rfl rfl ?_
              refine q_getf rfl rfl (by decide) rfl rfl ?_
              refine q_iload rfl rfl rfl ?_
              refine q_iload_n rfl rfl rfl ?_
              refine q_iast rfl rfl (by decide) (FW_57 S hW) (by decide) ?_
              refine q_aload_n rfl rfl rfl ?_
              refine q_iload_n rfl rfl rfl ?_
              refine q_nV1 rfl rfl (Or.inl rfl) rfl rfl rfl (by decide) rfl ⟨rfl, rfl⟩ rfl ?_
              change PQ _ _ _ mm_X12_rest 0 [.ref 46, .int 1, pm_un, pm_un] [] _ _ 0 0 _
              refine q_bipush rfl rfl ?_
              refine q_ist2n rfl rfl rfl rfl ?_
              refine q_iconst rfl rfl ?_
              refine q_ist3n rfl rfl rfl rfl ?_
              refine q_iload_n rfl rfl rfl ?_
              refine q_bipush rfl rfl ?_
              refine q_icge rfl rfl (fun c700 => absurd c700 (by decide)) (fun c700 => ?_)
              refine q_bipush rfl rfl ?_
              refine q_iload_n rfl rfl rfl ?_
              refine q_imul rfl rfl (q_tn (z := 527) rfl ?_)
              refine q_aload_n rfl rfl rfl ?_
              refine q_getf rfl rfl (by decide) rfl rfl ?_
              refine q_iload_n rfl rfl rfl ?_
              refine q_iald rfl rfl (by decide) rfl (by decide) (q_tn (z := 10) rfl ?_)
              refine q_iadd rfl rfl (q_tn (z := 537) rfl ?_)
              refine q_ist2n rfl rfl rfl rfl ?_
              refine q_icc3 (z := 1) rfl rfl rfl rfl rfl ?_
              refine q_goto rfl ?_
              refine q_iload_n rfl rfl rfl ?_
              refine q_bipush rfl rfl ?_
              refine q_icge rfl rfl (fun c701 => absurd c701 (by decide)) (fun c701 => ?_)
              refine q_bipush rfl rfl ?_
              refine q_iload_n rfl rfl rfl ?_
              refine q_imul rfl rfl (q_tn (z := 16647) rfl ?_)
              refine q_aload_n rfl rfl rfl ?_
              refine q_getf rfl rfl (by decide) rfl rfl ?_
              refine q_iload_n rfl rfl rfl ?_
              refine q_iald rfl rfl (by decide) rfl (by decide) (q_tn (z := 0) rfl ?_)
              refine q_iadd rfl rfl (q_tn (z := 16647) rfl ?_)
              refine q_ist2n rfl rfl rfl rfl ?_
              refine q_icc3 (z := 2) rfl rfl rfl rfl rfl ?_
              refine q_goto rfl ?_
              refine q_iload_n rfl rfl rfl ?_
              refine q_bipush rfl rfl ?_
              refine q_icge rfl rfl (fun c702 => absurd c702 (by decide)) (fun c702 => ?_)
              refine q_bipush rfl rfl ?_
              refine q_iload_n rfl rfl rfl ?_
              refine q_imul rfl rfl (q_tn (z := 516057) rfl ?_)
              refine q_aload_n rfl rfl rfl ?_
              refine q_getf rfl rfl (by decide) rfl rfl ?_
              refine q_iload_n rfl rfl rfl ?_
              refine q_iald rfl rfl (by decide) rfl (by decide) (q_tn (z := 0) rfl ?_)
              refine q_iadd rfl rfl (q_tn (z := 516057) rfl ?_)
              refine q_ist2n rfl rfl rfl rfl ?_
              refine q_icc3 (z := 3) rfl rfl rfl rfl rfl ?_
              refine q_goto rfl ?_
              refine q_iload_n rfl rfl rfl ?_
              refine q_bipush rfl rfl ?_
              refine q_icge rfl rfl (fun c703 => absurd c703 (by decide)) (fun c703 => ?_)
              refine q_bipush rfl rfl ?_
              refine q_iload_n rfl rfl rfl ?_
              refine q_imul rfl rfl (q_tn (z := 15997767) rfl ?_)
              refine q_aload_n rfl rfl rfl ?_
              refine q_getf rfl rfl (by decide) rfl rfl ?_
              refine q_iload_n rfl rfl rfl ?_
              refine q_iald rfl rfl (by decide) rfl (by decide) (q_tn (z := 0) rfl ?_)
              refine q_iadd rfl rfl (q_tn (z := 15997767) rfl ?_)
              refine q_ist2n rfl rfl rfl rfl ?_
              refine q_icc3 (z := 4) rfl rfl rfl rfl rfl ?_
              refine q_goto rfl ?_
              refine q_iload_n rfl rfl rfl ?_
              refine q_bipush rfl rfl ?_
              refine q_icge rfl rfl (fun c704 => absurd c704 (by decide)) (fun c704 => ?_)
              refine q_bipush rfl rfl ?_
              refine q_iload_n rfl rfl rfl ?_
              refine q_imul rfl rfl (q_tn (z := 495930777) rfl ?_)
              refine q_aload_n rfl rfl rfl ?_
              refine q_getf rfl rfl (by decide) rfl rfl ?_
              refine q_iload_n rfl rfl rfl ?_
              refine q_iald rfl rfl (by decide) rfl (by decide) (q_tn (z := 0) rfl ?_)
              refine q_iadd rfl rfl (q_tn (z := 495930777) rfl ?_)
              refine q_ist2n rfl rfl rfl rfl ?_
              refine q_icc3 (z := 5) rfl rfl rfl rfl rfl ?_
              refine q_goto rfl ?_
              refine q_iload_n rfl rfl rfl ?_
              refine q_bipush rfl rfl ?_
              refine q_icge rfl rfl (fun c705 => absurd c705 (by decide)) (fun c705 => ?_)
              refine q_bipush rfl rfl ?_
              refine q_iload_n rfl rfl rfl ?_
              refine q_imul rfl rfl (q_tn (z := (-1806015097)) rfl ?_)
              refine q_aload_n rfl rfl rfl ?_
              refine q_getf rfl rfl (by decide) rfl rfl ?_
              refine q_iload_n rfl rfl rfl ?_
              refine q_iald rfl rfl (by decide) rfl (by decide) (q_tn (z := 0) rfl ?_)
              refine q_iadd rfl rfl (q_tn (z := (-1806015097)) rfl ?_)
              refine q_ist2n rfl rfl rfl rfl ?_
              refine q_icc3 (z := 6) rfl rfl rfl rfl rfl ?_
              refine q_goto rfl ?_
              refine q_iload_n rfl rfl rfl ?_
              refine q_bipush rfl rfl ?_
              refine q_icge rfl rfl (fun c706 => absurd c706 (by decide)) (fun c706 => ?_)
              refine q_bipush rfl rfl ?_
              refine q_iload_n rfl rfl rfl ?_
              refine q_imul rfl rfl (q_tn (z := (-151893159)) rfl ?_)
              refine q_aload_n rfl rfl rfl ?_
              refine q_getf rfl rfl (by decide) rfl rfl ?_
              refine q_iload_n rfl rfl rfl ?_
              refine q_iald rfl rfl (by decide) rfl (by decide) (q_tn (z := 0) rfl ?_)
              refine q_iadd rfl rfl (q_tn (z := (-151893159)) rfl ?_)
              refine q_ist2n rfl rfl rfl rfl ?_
              refine q_icc3 (z := 7) rfl rfl rfl rfl rfl ?_
              refine q_goto rfl ?_
              refine q_iload_n rfl rfl rfl ?_
              refine q_bipush rfl rfl ?_
              refine q_icge rfl rfl (fun c707 => absurd c707 (by decide)) (fun c707 => ?_)
              refine q_bipush rfl rfl ?_
              refine q_iload_n rfl rfl rfl ?_
              refine q_imul rfl rfl (q_tn (z := (-413720633)) rfl ?_)
              refine q_aload_n rfl rfl rfl ?_
              refine q_getf rfl rfl (by decide) rfl rfl ?_
              refine q_iload_n rfl rfl rfl ?_
              refine q_iald rfl rfl (by decide) rfl (by decide) (q_tn (z := 0) rfl ?_)
              refine q_iadd rfl rfl (q_tn (z := (-413720633)) rfl ?_)
              refine q_ist2n rfl rfl rfl rfl ?_
              refine q_icc3 (z := 8) rfl rfl rfl rfl rfl ?_
              refine q_goto rfl ?_
              refine q_iload_n rfl rfl rfl ?_
              refine q_bipush rfl rfl ?_
              refine q_icge rfl rfl (fun c708 => absurd c708 (by decide)) (fun c708 => ?_)
              refine q_bipush rfl rfl ?_
              refine q_iload_n rfl rfl rfl ?_
              refine q_imul rfl rfl (q_tn (z := 59562265) rfl ?_)
              refine q_aload_n rfl rfl rfl ?_
              refine q_getf rfl rfl (by decide) rfl rfl ?_
              refine q_iload_n rfl rfl rfl ?_
              refine q_iald rfl rfl (by decide) rfl (by decide) (q_tn (z := 0) rfl ?_)
              refine q_iadd rfl rfl (q_tn (z := 59562265) rfl ?_)
              refine q_ist2n rfl rfl rfl rfl ?_
              refine q_icc3 (z := 9) rfl rfl rfl rfl rfl ?_
              refine q_goto rfl ?_
              refine q_iload_n rfl rfl rfl ?_
              refine q_bipush rfl rfl ?_
              refine q_icge rfl rfl (fun c709 => absurd c709 (by decide)) (fun c709 => ?_)
              refine q_bipush rfl rfl ?_
              refine q_iload_n rfl rfl rfl ?_
              refine q_imul rfl rfl (q_tn (z := 1846430215) rfl ?_)
              refine q_aload_n rfl rfl rfl ?_
              refine q_getf rfl rfl (by decide) rfl rfl ?_
              refine q_iload_n rfl rfl rfl ?_
              refine q_iald rfl rfl (by decide) rfl (by decide) (q_tn (z := 0) rfl ?_)
              refine q_iadd rfl rfl (q_tn (z := 1846430215) rfl ?_)
              refine q_ist2n rfl rfl rfl rfl ?_
              refine q_icc3 (z := 10) rfl rfl rfl rfl rfl ?_
              refine q_goto rfl ?_
              refine q_iload_n rfl rfl rfl ?_
              refine q_bipush rfl rfl ?_
              refine q_icge rfl rfl (fun c710 => absurd c710 (by decide)) (fun c710 => ?_)
              refine q_bipush rfl rfl ?_
              refine q_iload_n rfl rfl rfl ?_
              refine q_imul rfl rfl (q_tn (z := 1404761817) rfl ?_)
              refine q_aload_n rfl rfl rfl ?_
              refine q_getf rfl rfl (by decide) rfl rfl ?_
              refine q_iload_n rfl rfl rfl ?_
              refine q_iald rfl rfl (by decide) rfl (by decide) (q_tn (z := 0) rfl ?_)
              refine q_iadd rfl rfl (q_tn (z := 1404761817) rfl ?_)
              refine q_ist2n rfl rfl rfl rfl ?_
              refine q_icc3 (z := 11) rfl rfl rfl rfl rfl ?_
              refine q_goto rfl ?_
              refine q_iload_n rfl rfl rfl ?_
              refine q_bipush rfl rfl ?_
              refine q_icge rfl rfl (fun c711 => absurd c711 (by decide)) (fun c711 => ?_)
              refine q_bipush rfl rfl ?_
              refine q_iload_n rfl rfl rfl ?_
              refine q_imul rfl rfl (q_tn (z := 597943367) rfl ?_)
              refine q_aload_n rfl rfl rfl ?_
              refine q_getf rfl rfl (by decide) rfl rfl ?_
              refine q_iload_n rfl rfl rfl ?_
              refine q_iald rfl rfl (by decide) rfl (by decide) (q_tn (z := 0) rfl ?_)
              refine q_iadd rfl rfl (q_tn (z := 597943367) rfl ?_)
              refine q_ist2n rfl rfl rfl rfl ?_
              refine q_icc3 (z := 12) rfl rfl rfl rfl rfl ?_
              refine q_goto rfl ?_
              refine q_iload_n rfl rfl rfl ?_
              refine q_bipush rfl rfl ?_
              refine q_icge rfl rfl (fun c712 => absurd c712 (by decide)) (fun c712 => ?_)
              refine q_bipush rfl rfl ?_
              refine q_iload_n rfl rfl rfl ?_
              refine q_imul rfl rfl (q_tn (z := 1356375193) rfl ?_)
              refine q_aload_n rfl rfl rfl ?_
              refine q_getf rfl rfl (by decide) rfl rfl ?_
              as_aux_lemma =>
                refine q_iload_n rfl rfl rfl ?_
                refine q_iald rfl rfl (by decide) rfl (by decide) (q_tn (z := 0) rfl ?_)
                refine q_iadd rfl rfl (q_tn (z := 1356375193) rfl ?_)
                refine q_ist2n rfl rfl rfl rfl ?_
                refine q_icc3 (z := 13) rfl rfl rfl rfl rfl ?_
                refine q_goto rfl ?_
                refine q_iload_n rfl rfl rfl ?_
                refine q_bipush rfl rfl ?_
                refine q_icge rfl rfl (fun c713 => absurd c713 (by decide)) (fun c713 => ?_)
                refine q_bipush rfl rfl ?_
                refine q_iload_n rfl rfl rfl ?_
                refine q_imul rfl rfl (q_tn (z := (-902041977)) rfl ?_)
                refine q_aload_n rfl rfl rfl ?_
                refine q_getf rfl rfl (by decide) rfl rfl ?_
                refine q_iload_n rfl rfl rfl ?_
                refine q_iald rfl rfl (by decide) rfl (by decide) (q_tn (z := 0) rfl ?_)
                refine q_iadd rfl rfl (q_tn (z := (-902041977)) rfl ?_)
                refine q_ist2n rfl rfl rfl rfl ?_
                refine q_icc3 (z := 14) rfl rfl rfl rfl rfl ?_
                refine q_goto rfl ?_
                refine q_iload_n rfl rfl rfl ?_
                refine q_bipush rfl rfl ?_
                refine q_icge rfl rfl (fun c714 => absurd c714 (by decide)) (fun c714 => ?_)
                refine q_bipush rfl rfl ?_
                refine q_iload_n rfl rfl rfl ?_
                refine q_imul rfl rfl (q_tn (z := 2101469785) rfl ?_)
                refine q_aload_n rfl rfl rfl ?_
                refine q_getf rfl rfl (by decide) rfl rfl ?_
                refine q_iload_n rfl rfl rfl ?_
                refine q_iald rfl rfl (by decide) rfl (by decide) (q_tn (z := 0) rfl ?_)
                refine q_iadd rfl rfl (q_tn (z := 2101469785) rfl ?_)
                refine q_ist2n rfl rfl rfl rfl ?_
                refine q_icc3 (z := 15) rfl rfl rfl rfl rfl ?_
                refine q_goto rfl ?_
                refine q_iload_n rfl rfl rfl ?_
                refine q_bipush rfl rfl ?_
                refine q_icge rfl rfl (fun c715 => absurd c715 (by decide)) (fun c715 => ?_)
                refine q_bipush rfl rfl ?_
                refine q_iload_n rfl rfl rfl ?_
                refine q_imul rfl rfl (q_tn (z := 721053895) rfl ?_)
                refine q_aload_n rfl rfl rfl ?_
                refine q_getf rfl rfl (by decide) rfl rfl ?_
                refine q_iload_n rfl rfl rfl ?_
                refine q_iald rfl rfl (by decide) rfl (by decide) (q_tn (z := 0) rfl ?_)
                refine q_iadd rfl rfl (q_tn (z := 721053895) rfl ?_)
                refine q_ist2n rfl rfl rfl rfl ?_
                refine q_icc3 (z := 16) rfl rfl rfl rfl rfl ?_
                refine q_goto rfl ?_
                refine q_iload_n rfl rfl rfl ?_
                refine q_bipush rfl rfl ?_
                refine q_icge rfl rfl (fun c716 => absurd c716 (by decide)) (fun c716 => ?_)
                refine q_bipush rfl rfl ?_
                refine q_iload_n rfl rfl rfl ?_
                refine q_imul rfl rfl (q_tn (z := 877834265) rfl ?_)
                refine q_aload_n rfl rfl rfl ?_
                refine q_getf rfl rfl (by decide) rfl rfl ?_
                refine q_iload_n rfl rfl rfl ?_
                refine q_iald rfl rfl (by decide) rfl (by decide) (q_tn (z := 0) rfl ?_)
                refine q_iadd rfl rfl (q_tn (z := 877834265) rfl ?_)
                refine q_ist2n rfl rfl rfl rfl ?_
                refine q_icc3 (z := 17) rfl rfl rfl rfl rfl ?_
                refine q_goto rfl ?_
                refine q_iload_n rfl rfl rfl ?_
                refine q_bipush rfl rfl ?_
                refine q_icge rfl rfl (fun c717 => absurd c717 (by decide)) (fun c717 => ?_)
                refine q_bipush rfl rfl ?_
                refine q_iload_n rfl rfl rfl ?_
                refine q_imul rfl rfl (q_tn (z := 1443058439) rfl ?_)
                refine q_aload_n rfl rfl rfl ?_
                refine q_getf rfl rfl (by decide) rfl rfl ?_
                refine q_iload_n rfl rfl rfl ?_
                refine q_iald rfl rfl (by decide) rfl (by decide) (q_tn (z := 0) rfl ?_)
                refine q_iadd rfl rfl (q_tn (z := 1443058439) rfl ?_)
                refine q_ist2n rfl rfl rfl rfl ?_
                refine q_icc3 (z := 18) rfl rfl rfl rfl rfl ?_
                refine q_goto rfl ?_
                refine q_iload_n rfl rfl rfl ?_
                refine q_bipush rfl rfl ?_
                refine q_icge rfl rfl (fun c718 => absurd c718 (by decide)) (fun c718 => ?_)
                refine q_bipush rfl rfl ?_
                refine q_iload_n rfl rfl rfl ?_
                refine q_imul rfl rfl (q_tn (z := 1785138649) rfl ?_)
                refine q_aload_n rfl rfl rfl ?_
                refine q_getf rfl rfl (by decide) rfl rfl ?_
                refine q_iload_n rfl rfl rfl ?_
                refine q_iald rfl rfl (by decide) rfl (by decide) (q_tn (z := 0) rfl ?_)
                refine q_iadd rfl rfl (q_tn (z := 1785138649) rfl ?_)
                refine q_ist2n rfl rfl rfl rfl ?_
                refine q_icc3 (z := 19) rfl rfl rfl rfl rfl ?_
                refine q_goto rfl ?_
                refine q_iload_n rfl rfl rfl ?_
                refine q_bipush rfl rfl ?_
                refine q_icge rfl rfl (fun c719 => absurd c719 (by decide)) (fun c719 => ?_)
                refine q_bipush rfl rfl ?_
                refine q_iload_n rfl rfl rfl ?_
                refine q_imul rfl rfl (q_tn (z := (-495276729)) rfl ?_)
                refine q_aload_n rfl rfl rfl ?_
                refine q_getf rfl rfl (by decide) rfl rfl ?_
                refine q_iload_n rfl rfl rfl ?_
                refine q_iald rfl rfl (by decide) rfl (by decide) (q_tn (z := 0) rfl ?_)
                refine q_iadd rfl rfl (q_tn (z := (-495276729)) rfl ?_)
                refine q_ist2n rfl rfl rfl rfl ?_
                refine q_icc3 (z := 20) rfl rfl rfl rfl rfl ?_
                refine q_goto rfl ?_
                refine q_iload_n rfl rfl rfl ?_
                refine q_bipush rfl rfl ?_
                refine q_icge rfl rfl (fun c720 => ?_) (fun c720 => absurd (by decide) c720)
                refine q_sipush rfl rfl ?_
                refine q_iload_n rfl rfl rfl ?_
                refine q_imul rfl rfl (q_tn (z := 8192) rfl ?_)
                refine q_iload_n rfl rfl rfl ?_
                refine q_iload_n rfl rfl rfl ?_
                refine q_bipush rfl rfl ?_
                refine q_iushr rfl rfl (q_tn (z := 463829) rfl ?_)
                refine q_ixor rfl rfl (q_tn (z := (-495075694)) rfl ?_)
                refine q_sipush rfl rfl ?_
                refine q_irem rfl rfl (by decide) (q_tn (z := (-366)) rfl ?_)
                refine q_iload_n rfl rfl rfl ?_
                refine q_iload_n rfl rfl rfl ?_
                refine q_bipush rfl rfl ?_
                refine q_iushr rfl rfl (q_tn (z := 463829) rfl ?_)
                refine q_ixor rfl rfl (q_tn (z := (-495075694)) rfl ?_)
                refine q_sipush rfl rfl ?_
                refine q_irem rfl rfl (by decide) (q_tn (z := (-366)) rfl ?_)
                refine q_ifge rfl rfl (fun c721 => absurd c721 (by decide)) (fun c721 => ?_)
                refine q_iconst rfl rfl ?_
                refine q_goto rfl ?_
                refine q_imul rfl rfl (q_tn (z := 366) rfl ?_)
                refine q_iadd rfl rfl (q_tn (z := 8558) rfl ?_)
                refine q_iret rfl rfl trivial ?_
                refine ⟨_, rfl, ?_⟩
                refine q_ist6 rfl rfl rfl rfl ?_
                refine q_aload_n rfl rfl rfl ?_
                refine q_getf rfl rfl (by decide) rfl rfl ?_
                refine q_iload rfl rfl rfl ?_
                refine q_aload_n rfl rfl rfl ?_
                refine q_getf rfl rfl (by decide) rfl rfl ?_
                refine q_iload rfl rfl rfl ?_
                refine q_iald rfl rfl (by decide) rfl (by decide) (q_tn (z := (-1)) rfl ?_)
                refine q_iast rfl rfl (by decide) (FW_58 S hW) (by decide) ?_
                refine q_aload_n rfl rfl rfl ?_
                refine q_getf rfl rfl (by decide) rfl rfl ?_
                refine q_iload rfl rfl rfl ?_
                refine q_iload rfl rfl rfl ?_
                refine q_iast rfl rfl (by decide) rfl (by decide) ?_
                refine q_aload_n rfl rfl rfl ?_
                refine q_getf rfl rfl (by decide) rfl rfl ?_
                refine q_iload_n rfl rfl rfl ?_
                refine q_dup2 rfl rfl ?_
                refine q_iald rfl rfl (by decide) rfl (by decide) (q_tn (z := 0) rfl ?_)
                refine q_iconst rfl rfl ?_
                refine q_iadd rfl rfl (q_tn (z := 1) rfl ?_)
                refine q_iast rfl rfl (by decide) rfl (by decide) ?_
                refine q_iload rfl rfl rfl ?_
                refine q_iret rfl rfl trivial ?_
                refine ⟨_, rfl, ?_⟩
                refine q_ist3n rfl rfl rfl rfl ?_
                refine q_iconst rfl rfl ?_
                refine q_ist4 rfl rfl rfl rfl ?_
                refine q_iload rfl rfl rfl ?_
                refine q_aload_n rfl rfl rfl ?_
                refine q_getf rfl rfl (by decide) rfl rfl ?_
                refine q_iload_n rfl rfl rfl ?_
                refine q_iald rfl rfl (by decide) rfl (by decide) (q_tn (z := 1) rfl ?_)
                refine q_icge rfl rfl (fun c722 => absurd c722 (by decide)) (fun c722 => ?_)
                refine q_iconst rfl rfl ?_
                refine q_ist5 rfl rfl rfl rfl ?_
                refine q_iload rfl rfl rfl ?_
                refine q_iconst rfl rfl ?_
                refine q_icge rfl rfl (fun c723 => absurd c723 (by decide)) (fun c723 => ?_)
                refine q_iconst rfl rfl ?_
                refine q_sipush rfl rfl ?_
                refine q_iload_n rfl rfl rfl ?_
                refine q_imul rfl rfl (q_tn (z := 2000) rfl ?_)
                refine q_iload rfl rfl rfl ?_
                refine q_iadd rfl rfl (q_tn (z := 2000) rfl ?_)
                refine q_imul rfl rfl (q_tn (z := 6000) rfl ?_)
                refine q_iload rfl rfl rfl ?_
                refine q_iadd rfl rfl (q_tn (z := 6000) rfl ?_)
                refine q_ist6 rfl rfl rfl rfl ?_
                refine q_aload_n rfl rfl rfl ?_
                refine q_getf rfl rfl (by decide) rfl rfl ?_
                refine q_iload rfl rfl rfl ?_
                refine q_iconst rfl rfl ?_
                refine q_iast rfl rfl (by decide) (FW_59 S hW) (by decide) ?_
                refine q_aload_n rfl rfl rfl ?_
                refine q_iload_n rfl rfl rfl ?_
                refine q_iload rfl rfl rfl ?_
                refine q_cV2v rfl rfl (Or.inl rfl) rfl rfl rfl (by decide) rfl ⟨rfl, rfl⟩ rfl (fun K' hK' => l_sa (R := 1) (by decide) rfl (by decide) rfl rfl rfl rfl rfl hK') ?_
                refine q_iload rfl rfl rfl ?_
                refine q_aload_n rfl rfl rfl ?_
                refine q_getf rfl rfl (by decide) rfl rfl ?_
                refine q_icge rfl rfl (fun c724 => absurd c724 (by decide)) (fun c724 => ?_)
                refine q_aload_n rfl rfl rfl ?_
                refine q_iload rfl rfl rfl ?_
                refine q_iload_n rfl rfl rfl ?_
                refine q_nV2 rfl rfl (Or.inl rfl) rfl rfl rfl (by decide) rfl ⟨rfl, rfl⟩ rfl ?_
                change PQ _ _ _ mm_X12_maySteps 0 [.ref 46, .int 0, .int 3, pm_un, pm_un, pm_un] [] _ _ 0 0 _
                refine q_aload_n rfl rfl rfl ?_
                refine q_iload_n rfl rfl rfl ?_
                refine q_iload_n rfl rfl rfl ?_
                refine q_nV2 rfl rfl (Or.inl rfl) rfl rfl rfl (by decide) rfl ⟨rfl, rfl⟩ rfl ?_
                change PQ _ _ _ mm_X12_canStep 0 [.ref 46, .int 0, .int 3, pm_un] [] _ _ 0 0 _
                refine q_aload_n rfl rfl rfl ?_
                refine q_iload_n rfl rfl rfl ?_
                refine q_nV1 rfl rfl (Or.inl rfl) rfl rfl rfl (by decide) rfl ⟨rfl, rfl⟩ rfl ?_
                change PQ _ _ _ mm_X12_isOver 0 [.ref 46, .int 0] [] _ _ 0 0 _
                refine q_aload_n rfl rfl rfl ?_
                refine q_getf rfl rfl (by decide) rfl rfl ?_
                refine q_iconst rfl rfl ?_
                refine q_iload_n rfl rfl rfl ?_
                refine q_imul rfl rfl (q_tn (z := 0) rfl ?_)
                refine q_iald rfl rfl (by decide) rfl (by decide) (q_tn (z := 10) rfl ?_)
                refine q_bipush rfl rfl ?_
                refine q_iclt rfl rfl (fun c725 => absurd c725 (by decide)) (fun c725 => ?_)
                refine q_iconst rfl rfl ?_
                refine q_goto rfl ?_
                refine q_iret rfl rfl rfl ?_
                refine ⟨_, rfl, ?_⟩
                refine q_ifeq rfl rfl (fun c726 => absurd c726 (by decide)) (fun c726 => ?_)
                refine q_iconst rfl rfl ?_
                refine q_iret rfl rfl rfl ?_
                refine ⟨_, rfl, ?_⟩
                refine q_ifne rfl rfl (fun c727 => ?_) (fun c727 => absurd (by decide) c727)
                refine q_iconst rfl rfl ?_
                refine q_iret rfl rfl rfl ?_
                refine ⟨_, rfl, ?_⟩
                refine q_ifne rfl rfl (fun c728 => ?_) (fun c728 => absurd (by decide) c728)
                refine q_goto rfl ?_
                refine q_icc5 (z := 1) rfl rfl rfl rfl rfl ?_
                refine q_goto rfl ?_
                refine q_iload rfl rfl rfl ?_
                refine q_iconst rfl rfl ?_
                refine q_icge rfl rfl (fun c729 => absurd c729 (by decide)) (fun c729 => ?_)
                refine q_iconst rfl rfl ?_
                refine q_sipush rfl rfl ?_
                refine q_iload_n rfl rfl rfl ?_
                refine q_imul rfl rfl (q_tn (z := 2000) rfl ?_)
                refine q_iload rfl rfl rfl ?_
                refine q_iadd rfl rfl (q_tn (z := 2000) rfl ?_)
                refine q_imul rfl rfl (q_tn (z := 6000) rfl ?_)
                refine q_iload rfl rfl rfl ?_
                refine q_iadd rfl rfl (q_tn (z := 6001) rfl ?_)
                refine q_ist6 rfl rfl rfl rfl ?_
                refine q_aload_n rfl rfl rfl ?_
                refine q_getf rfl rfl (by decide) rfl rfl ?_
                refine q_iload rfl rfl rfl ?_
                refine q_iconst rfl rfl ?_
                refine q_iast rfl rfl (by decide) rfl (by decide) ?_
                refine q_aload_n rfl rfl rfl ?_
                refine q_iload_n rfl rfl rfl ?_
                refine q_iload rfl rfl rfl ?_
                refine q_cV2v rfl rfl (Or.inl rfl) rfl rfl rfl (by decide) rfl ⟨rfl, rfl⟩ rfl (fun K' hK' => l_sa (R := 1) (by decide) rfl (by decide) rfl rfl rfl rfl rfl hK') ?_
                refine q_iload rfl rfl rfl ?_
                refine q_aload_n rfl rfl rfl ?_
                refine q_getf rfl rfl (by decide) rfl rfl ?_
                refine q_icge rfl rfl (fun c730 => ?_) (fun c730 => absurd (by decide) c730)
                refine q_icc5 (z := 2) rfl rfl rfl rfl rfl ?_
                refine q_goto rfl ?_
                refine q_iload rfl rfl rfl ?_
                refine q_iconst rfl rfl ?_
                refine q_icge rfl rfl (fun c731 => absurd c731 (by decide)) (fun c731 => ?_)
                refine q_iconst rfl rfl ?_
                refine q_sipush rfl rfl ?_
                refine q_iload_n rfl rfl rfl ?_
                refine q_imul rfl rfl (q_tn (z := 2000) rfl ?_)
                refine q_iload rfl rfl rfl ?_
                refine q_iadd rfl rfl (q_tn (z := 2000) rfl ?_)
                refine q_imul rfl rfl (q_tn (z := 6000) rfl ?_)
                refine q_iload rfl rfl rfl ?_
                refine q_iadd rfl rfl (q_tn (z := 6002) rfl ?_)
                refine q_ist6 rfl rfl rfl rfl ?_
                refine q_aload_n rfl rfl rfl ?_
                refine q_getf rfl rfl (by decide) rfl rfl ?_
                refine q_iload rfl rfl rfl ?_
                refine q_iconst rfl rfl ?_
                refine q_iast rfl rfl (by decide) rfl (by decide) ?_
                refine q_aload_n rfl rfl rfl ?_
                refine q_iload_n rfl rfl rfl ?_
                refine q_iload rfl rfl rfl ?_
                refine q_cV2v rfl rfl (Or.inl rfl) rfl rfl rfl (by decide) rfl ⟨rfl, rfl⟩ rfl (fun K' hK' => l_sa (R := 1) (by decide) rfl (by decide) rfl rfl rfl rfl rfl hK') ?_
                refine q_iload rfl rfl rfl ?_
                refine q_aload_n rfl rfl rfl ?_
                refine q_getf rfl rfl (by decide) rfl rfl ?_
                refine q_icge rfl rfl (fun c732 => ?_) (fun c732 => absurd (by decide) c732)
                refine q_icc5 (z := 3) rfl rfl rfl rfl rfl ?_
                refine q_goto rfl ?_
                refine q_iload rfl rfl rfl ?_
                refine q_iconst rfl rfl ?_
                refine q_icge rfl rfl (fun c733 => ?_) (fun c733 => absurd (by decide) c733)
                refine q_icc4 (z := 1) rfl rfl rfl rfl rfl ?_
                refine q_goto rfl ?_
                refine q_iload rfl rfl rfl ?_
                refine q_aload_n rfl rfl rfl ?_
                refine q_getf rfl rfl (by decide) rfl rfl ?_
                refine q_iload_n rfl rfl rfl ?_
                refine q_iald rfl rfl (by decide) rfl (by decide) (q_tn (z := 1) rfl ?_)
                refine q_icge rfl rfl (fun c734 => ?_) (fun c734 => absurd (by decide) c734)
                refine q_iconst rfl rfl ?_
                refine q_iret rfl rfl rfl ?_
                refine ⟨_, rfl, ?_⟩
                refine q_ifeq rfl rfl (fun c735 => absurd c735 (by decide)) (fun c735 => ?_)
                refine q_iconst rfl rfl ?_
                refine q_goto rfl ?_
                refine q_iast rfl rfl (by decide) (FW_62 S hW) (by decide) ?_
                refine q_iload_n rfl rfl rfl ?_
                refine q_ifne rfl rfl (fun c736 => absurd c736 (by decide)) (fun c736 => ?_)
                refine q_aload_n rfl rfl rfl ?_
                refine q_getf rfl rfl (by decide) rfl rfl ?_
                refine q_iload_n rfl rfl rfl ?_
                refine q_aload_n rfl rfl rfl ?_
                refine q_getf rfl rfl (by decide) rfl rfl ?_
                refine q_iload_n rfl rfl rfl ?_
                refine q_iald rfl rfl (by decide) rfl (by decide) (q_tn (z := 1) rfl ?_)
                refine q_iast rfl rfl (by decide) (FW_63 S hW) (by decide) ?_
                refine q_iconst rfl rfl ?_
                refine q_ist3n rfl rfl rfl rfl ?_
                refine q_iload_n rfl rfl rfl ?_
                refine q_iconst rfl rfl ?_
                refine q_icge rfl rfl (fun c737 => absurd c737 (by decide)) (fun c737 => ?_)
                refine q_aload_n rfl rfl rfl ?_
                refine q_getf rfl rfl (by decide) rfl rfl ?_
                refine q_iconst rfl rfl ?_
                refine q_iload_n rfl rfl rfl ?_
                refine q_imul rfl rfl (q_tn (z := 12) rfl ?_)
                refine q_iload_n rfl rfl rfl ?_
                refine q_iadd rfl rfl (q_tn (z := 12) rfl ?_)
                refine q_iconst rfl rfl ?_
                refine q_iast rfl rfl (by decide) (FW_64 S hW) (by decide) ?_
                refine q_icc3 (z := 1) rfl rfl rfl rfl rfl ?_
                refine q_goto rfl ?_
                refine q_iload_n rfl rfl rfl ?_
                refine q_iconst rfl rfl ?_
                refine q_icge rfl rfl (fun c738 => absurd c738 (by decide)) (fun c738 => ?_)
                refine q_aload_n rfl rfl rfl ?_
                refine q_getf rfl rfl (by decide) rfl rfl ?_
                refine q_iconst rfl rfl ?_
                refine q_iload_n rfl rfl rfl ?_
                refine q_imul rfl rfl (q_tn (z := 12) rfl ?_)
                refine q_iload_n rfl rfl rfl ?_
                refine q_iadd rfl rfl (q_tn (z := 13) rfl ?_)
                refine q_iconst rfl rfl ?_
                refine q_iast rfl rfl (by decide) rfl (by decide) ?_
                refine q_icc3 (z := 2) rfl rfl rfl rfl rfl ?_
                refine q_goto rfl ?_
                refine q_iload_n rfl rfl rfl ?_
                refine q_iconst rfl rfl ?_
                refine q_icge rfl rfl (fun c739 => absurd c739 (by decide)) (fun c739 => ?_)
                refine q_aload_n rfl rfl rfl ?_
                refine q_getf rfl rfl (by decide) rfl rfl ?_
                refine q_iconst rfl rfl ?_
                refine q_iload_n rfl rfl rfl ?_
                refine q_imul rfl rfl (q_tn (z := 12) rfl ?_)
                refine q_iload_n rfl rfl rfl ?_
                refine q_iadd rfl rfl (q_tn (z := 14) rfl ?_)
                refine q_iconst rfl rfl ?_
                refine q_iast rfl rfl (by decide) rfl (by decide) ?_
                refine q_icc3 (z := 3) rfl rfl rfl rfl rfl ?_
                refine q_goto rfl ?_
                refine q_iload_n rfl rfl rfl ?_
                refine q_iconst rfl rfl ?_
                refine q_icge rfl rfl (fun c740 => absurd c740 (by decide)) (fun c740 => ?_)
                refine q_aload_n rfl rfl rfl ?_
                refine q_getf rfl rfl (by decide) rfl rfl ?_
                refine q_iconst rfl rfl ?_
                refine q_iload_n rfl rfl rfl ?_
                refine q_imul rfl rfl (q_tn (z := 12) rfl ?_)
                refine q_iload_n rfl rfl rfl ?_
                refine q_iadd rfl rfl (q_tn (z := 15) rfl ?_)
                refine q_iconst rfl rfl ?_
                refine q_iast rfl rfl (by decide) rfl (by decide) ?_
                refine q_icc3 (z := 4) rfl rfl rfl rfl rfl ?_
                refine q_goto rfl ?_
                refine q_iload_n rfl rfl rfl ?_
                refine q_iconst rfl rfl ?_
                refine q_icge rfl rfl (fun c741 => ?_) (fun c741 => absurd (by decide) c741)
                refine q_iconst rfl rfl ?_
                refine q_ist3n rfl rfl rfl rfl ?_
                refine q_iload_n rfl rfl rfl ?_
                refine q_aload_n rfl rfl rfl ?_
                refine q_getf rfl rfl (by decide) rfl rfl ?_
                refine q_iload_n rfl rfl rfl ?_
                refine q_iald rfl rfl (by decide) rfl (by decide) (q_tn (z := 1) rfl ?_)
                refine q_icge rfl rfl (fun c742 => absurd c742 (by decide)) (fun c742 => ?_)
                refine q_aload_n rfl rfl rfl ?_
                refine q_iload_n rfl rfl rfl ?_
                refine q_iload_n rfl rfl rfl ?_
                refine q_cV2v rfl rfl (Or.inl rfl) rfl rfl rfl (by decide) rfl ⟨rfl, rfl⟩ rfl (fun K' hK' => l_sa (R := 1) (by decide) rfl (by decide) rfl rfl rfl rfl rfl hK') ?_
                refine q_aload_n rfl rfl rfl ?_
                refine q_nV0 rfl rfl (Or.inl rfl) rfl rfl rfl (by decide) rfl ⟨rfl, rfl⟩ rfl ?_
                change PQ _ _ _ mm_X12_isEnd 0 [.ref 46, pm_un, pm_un] [] _ _ 0 0 _
                refine q_iconst rfl rfl ?_
                refine q_ist1n rfl rfl rfl rfl ?_
                refine q_iconst rfl rfl ?_
                refine q_ist2n rfl rfl rfl rfl ?_
                refine q_iload_n rfl rfl rfl ?_
                refine q_aload_n rfl rfl rfl ?_
                refine q_getf rfl rfl (by decide) rfl rfl ?_
                refine q_icge rfl rfl (fun c743 => absurd c743 (by decide)) (fun c743 => ?_)
                refine q_iload_n rfl rfl rfl ?_
                refine q_ifeq rfl rfl (fun c744 => absurd c744 (by decide)) (fun c744 => ?_)
                refine q_aload_n rfl rfl rfl ?_
                refine q_iload_n rfl rfl rfl ?_
                refine q_nV1 rfl rfl (Or.inl rfl) rfl rfl rfl (by decide) rfl ⟨rfl, rfl⟩ rfl ?_
                change PQ _ _ _ mm_X12_isOver 0 [.ref 46, .int 0] [] _ _ 0 0 _
                refine q_aload_n rfl rfl rfl ?_
                refine q_getf rfl rfl (by decide) rfl rfl ?_
                refine q_iconst rfl rfl ?_
                refine q_iload_n rfl rfl rfl ?_
                refine q_imul rfl rfl (q_tn (z := 0) rfl ?_)
                refine q_iald rfl rfl (by decide) rfl (by decide) (q_tn (z := 10) rfl ?_)
                refine q_bipush rfl rfl ?_
                refine q_iclt rfl rfl (fun c745 => absurd c745 (by decide)) (fun c745 => ?_)
                refine q_iconst rfl rfl ?_
                refine q_goto rfl ?_
                refine q_iret rfl rfl rfl ?_
                refine ⟨_, rfl, ?_⟩
                refine q_ifeq rfl rfl (fun c746 => absurd c746 (by decide)) (fun c746 => ?_)
                refine q_iconst rfl rfl ?_
                refine q_goto rfl ?_
                refine q_ist1n rfl rfl rfl rfl ?_
                refine q_icc2 (z := 1) rfl rfl rfl rfl rfl ?_
                refine q_goto rfl ?_
                refine q_iload_n rfl rfl rfl ?_
                refine q_aload_n rfl rfl rfl ?_
                refine q_getf rfl rfl (by decide) rfl rfl ?_
                refine q_icge rfl rfl (fun c747 => ?_) (fun c747 => absurd (by decide) c747)
                refine q_iload_n rfl rfl rfl ?_
                refine q_iret rfl rfl rfl ?_
                refine ⟨_, rfl, ?_⟩
                refine q_ifne rfl rfl (fun c748 => absurd c748 (by decide)) (fun c748 => ?_)
                refine q_iconst rfl rfl ?_
                refine q_ist4 rfl rfl rfl rfl ?_
                refine q_iload rfl rfl rfl ?_
                refine q_iconst rfl rfl ?_
                refine q_icge rfl rfl (fun c749 => absurd c749 (by decide)) (fun c749 => ?_)
                refine q_aload_n rfl rfl rfl ?_
                refine q_getf rfl rfl (by decide) rfl rfl ?_
                refine q_iconst rfl rfl ?_
                refine q_iload_n rfl rfl rfl ?_
                refine q_imul rfl rfl (q_tn (z := 12) rfl ?_)
                refine q_iload rfl rfl rfl ?_
                refine q_iadd rfl rfl (q_tn (z := 12) rfl ?_)
                refine q_dup2 rfl rfl ?_
                refine q_iald rfl rfl (by decide) rfl (by decide) (q_tn (z := 0) rfl ?_)
                refine q_iconst rfl rfl ?_
                refine q_aload_n rfl rfl rfl ?_
                refine q_getf rfl rfl (by decide) rfl rfl ?_
                refine q_bipush rfl rfl ?_
                refine q_iload rfl rfl rfl ?_
                refine q_iadd rfl rfl (q_tn (z := 12) rfl ?_)
                refine q_iald rfl rfl (by decide) rfl (by decide) (q_tn (z := 0) rfl ?_)
                refine q_ishl rfl rfl (q_tn (z := 1) rfl ?_)
                refine q_ior rfl rfl (q_tn (z := 1) rfl ?_)
                refine q_iast rfl rfl (by decide) rfl (by decide) ?_
                refine q_icc4 (z := 1) rfl rfl rfl rfl rfl ?_
                refine q_goto rfl ?_
                refine q_iload rfl rfl rfl ?_
                refine q_iconst rfl rfl ?_
                refine q_icge rfl rfl (fun c750 => absurd c750 (by decide)) (fun c750 => ?_)
                refine q_aload_n rfl rfl rfl ?_
                refine q_getf rfl rfl (by decide) rfl rfl ?_
                refine q_iconst rfl rfl ?_
                refine q_iload_n rfl rfl rfl ?_
                refine q_imul rfl rfl (q_tn (z := 12) rfl ?_)
                refine q_iload rfl rfl rfl ?_
                refine q_iadd rfl rfl (q_tn (z := 13) rfl ?_)
                refine q_dup2 rfl rfl ?_
                refine q_iald rfl rfl (by decide) rfl (by decide) (q_tn (z := 0) rfl ?_)
                refine q_iconst rfl rfl ?_
                refine q_aload_n rfl rfl rfl ?_
                refine q_getf rfl rfl (by decide) rfl rfl ?_
                refine q_bipush rfl rfl ?_
                refine q_iload rfl rfl rfl ?_
                refine q_iadd rfl rfl (q_tn (z := 13) rfl ?_)
                refine q_iald rfl rfl (by decide) rfl (by decide) (q_tn (z := 0) rfl ?_)
                refine q_ishl rfl rfl (q_tn (z := 1) rfl ?_)
                refine q_ior rfl rfl (q_tn (z := 1) rfl ?_)
                refine q_iast rfl rfl (by decide) rfl (by decide) ?_
                refine q_icc4 (z := 2) rfl rfl rfl rfl rfl ?_
                refine q_goto rfl ?_
                refine q_iload rfl rfl rfl ?_
                refine q_iconst rfl rfl ?_
                refine q_icge rfl rfl (fun c751 => absurd c751 (by decide)) (fun c751 => ?_)
                refine q_aload_n rfl rfl rfl ?_
                refine q_getf rfl rfl (by decide) rfl rfl ?_
                refine q_iconst rfl rfl ?_
                refine q_iload_n rfl rfl rfl ?_
                refine q_imul rfl rfl (q_tn (z := 12) rfl ?_)
                refine q_iload rfl rfl rfl ?_
                refine q_iadd rfl rfl (q_tn (z := 14) rfl ?_)
                refine q_dup2 rfl rfl ?_
                refine q_iald rfl rfl (by decide) rfl (by decide) (q_tn (z := 0) rfl ?_)
                refine q_iconst rfl rfl ?_
                refine q_aload_n rfl rfl rfl ?_
                refine q_getf rfl rfl (by decide) rfl rfl ?_
                refine q_bipush rfl rfl ?_
                refine q_iload rfl rfl rfl ?_
                refine q_iadd rfl rfl (q_tn (z := 14) rfl ?_)
                refine q_iald rfl rfl (by decide) rfl (by decide) (q_tn (z := 0) rfl ?_)
                refine q_ishl rfl rfl (q_tn (z := 1) rfl ?_)
                refine q_ior rfl rfl (q_tn (z := 1) rfl ?_)
                refine q_iast rfl rfl (by decide) rfl (by decide) ?_
                refine q_icc4 (z := 3) rfl rfl rfl rfl rfl ?_
                refine q_goto rfl ?_
                refine q_iload rfl rfl rfl ?_
                refine q_iconst rfl rfl ?_
                refine q_icge rfl rfl (fun c752 => absurd c752 (by decide)) (fun c752 => ?_)
                refine q_aload_n rfl rfl rfl ?_
                refine q_getf rfl rfl (by decide) rfl rfl ?_
                refine q_iconst rfl rfl ?_
                refine q_iload_n rfl rfl rfl ?_
                refine q_imul rfl rfl (q_tn (z := 12) rfl ?_)
                refine q_iload rfl rfl rfl ?_
                refine q_iadd rfl rfl (q_tn (z := 15) rfl ?_)
                refine q_dup2 rfl rfl ?_
                refine q_iald rfl rfl (by decide) rfl (by decide) (q_tn (z := 0) rfl ?_)
                refine q_iconst rfl rfl ?_
                refine q_aload_n rfl rfl rfl ?_
                refine q_getf rfl rfl (by decide) rfl rfl ?_
                refine q_bipush rfl rfl ?_
                refine q_iload rfl rfl rfl ?_
                refine q_iadd rfl rfl (q_tn (z := 15) rfl ?_)
                refine q_iald rfl rfl (by decide) rfl (by decide) (q_tn (z := 0) rfl ?_)
                refine q_ishl rfl rfl (q_tn (z := 1) rfl ?_)
                refine q_ior rfl rfl (q_tn (z := 1) rfl ?_)
                refine q_iast rfl rfl (by decide) rfl (by decide) ?_
                refine q_icc4 (z := 4) rfl rfl rfl rfl rfl ?_
                refine q_goto rfl ?_
                refine q_iload rfl rfl rfl ?_
                refine q_iconst rfl rfl ?_
                refine q_icge rfl rfl (fun c753 => ?_) (fun c753 => absurd (by decide) c753)
                refine q_icc3 (z := 1) rfl rfl rfl rfl rfl ?_
                refine q_goto rfl ?_
                refine q_iload_n rfl rfl rfl ?_
                refine q_aload_n rfl rfl rfl ?_
                refine q_getf rfl rfl (by decide) rfl rfl ?_
                refine q_iload_n rfl rfl rfl ?_
                refine q_iald rfl rfl (by decide) rfl (by decide) (q_tn (z := 1) rfl ?_)
                refine q_icge rfl rfl (fun c754 => ?_) (fun c754 => absurd (by decide) c754)
                refine q_aload_n rfl rfl rfl ?_
                refine q_getf rfl rfl (by decide) rfl rfl ?_
                refine q_iload_n rfl rfl rfl ?_
                refine q_iald rfl rfl (by decide) rfl (by decide) (q_tn (z := 1) rfl ?_)
                refine q_iconst rfl rfl ?_
                refine q_icne rfl rfl (fun c755 => absurd c755 (by decide)) (fun c755 => ?_)
                refine q_iconst rfl rfl ?_
                refine q_iret rfl rfl rfl ?_
                refine ⟨_, rfl, ?_⟩
                refine q_ifeq rfl rfl (fun c756 => ?_) (fun c756 => absurd (by decide) c756)
                refine q_aload_n rfl rfl rfl ?_
                refine q_getf rfl rfl (by decide) rfl rfl ?_
                refine q_iload_n rfl rfl rfl ?_
                refine q_iald rfl rfl (by decide) rfl (by decide) (q_tn (z := 1) rfl ?_)
                refine q_iret rfl rfl trivial ?_
                refine ⟨_, rfl, ?_⟩
                refine q_iceq rfl rfl (fun c757 => ?_) (fun c757 => absurd (by decide) c757)
                refine q_icc4 (z := 6) rfl rfl rfl rfl rfl ?_
                refine q_goto rfl ?_
                refine q_iload rfl rfl rfl ?_
                refine q_aload_nF rfl rfl rfl ?_
                refine q_alenX (x := 6) rfl rfl rfl ?_
                refine q_bipush rfl rfl ?_
                refine q_isub rfl rfl (q_tn (z := 0) rfl ?_)
                refine q_icgt rfl rfl (fun c758 => ?_) (fun c758 => absurd (by decide) c758)
                refine q_iconst rfl rfl ?_
                refine q_iret rfl rfl rfl ?_
                exact hK _ _
            · refine q_iast rfl rfl (by decide) (FW_44 S hW) (by decide) ?_
              refine q_aload_n rfl rfl rfl ?_
              refine q_getf rfl rfl (by decide) (FW_0 S hW) rfl ?_
              refine q_iload_n rfl rfl rfl ?_
              refine q_aload_n rfl rfl rfl ?_
              refine q_getf rfl rfl (by decide) rfl rfl ?_
              refine q_last rfl rfl (by decide) (FW_45 S hW) (by decide) ?_
              refine q_aload_n rfl rfl rfl ?_
              refine q_getf rfl rfl (by decide) (FW_0 S hW) rfl ?_
              refine q_iload_n rfl rfl rfl ?_
              refine q_iald rfl rfl (by decide) rfl (by decide) (q_tn (z := 1) rfl ?_)
              refine q_iret rfl rfl trivial ?_
              refine ⟨_, rfl, ?_⟩
              refine q_goto rfl ?_
              refine q_iret rfl rfl trivial ?_
              refine ⟨_, rfl, ?_⟩
              refine q_aload_n rfl rfl rfl ?_
              refine q_aload_nF rfl rfl rfl ?_
              refine q_iload rfl rfl rfl ?_
              refine q_iconst rfl rfl ?_
              refine q_iadd rfl rfl (q_tn (z := 1) rfl ?_)
              refine q_ialdX (x := 4) rfl rfl rfl hx1 ?_
              refine q_nV1 rfl rfl (Or.inl rfl) rfl rfl rfl (by decide) (FW_46 S hW) ⟨rfl, rfl⟩ rfl ?_
              change PQ _ _ _ mm_X12_states 0 [.ref 46, .int 4] [] _ _ 0 0 _
              refine q_aload_n rfl rfl rfl ?_
              refine q_iload_n rfl rfl rfl ?_
              refine q_iconst rfl rfl ?_
              refine q_iconst rfl rfl ?_
              refine q_nV3 rfl rfl (Or.inl rfl) rfl rfl rfl (by decide) (FW_46 S hW) ⟨rfl, rfl⟩ rfl ?_
              change PQ _ _ _ mm_X12_in 0 [.ref 46, .int 4, .int 0, .int 4] [] _ _ 0 0 _
              refine q_iload_n rfl rfl rfl ?_
              refine q_iload_n rfl rfl rfl ?_
              refine q_iclt rfl rfl (fun c759 => absurd c759 (by decide)) (fun c759 => ?_)
              refine q_iload_n rfl rfl rfl ?_
              refine q_iload_n rfl rfl rfl ?_
              refine q_icgt rfl rfl (fun c760 => absurd c760 (by decide)) (fun c760 => ?_)
              refine q_iconst rfl rfl ?_
              refine q_goto rfl ?_
              refine q_iret rfl rfl rfl ?_
              refine ⟨_, rfl, ?_⟩
              refine q_ifne rfl rfl (fun c761 => absurd c761 (by decide)) (fun c761 => ?_)
              refine q_aload_n rfl rfl rfl ?_
              refine q_iload_n rfl rfl rfl ?_
              refine q_nV1 rfl rfl (Or.inl rfl) rfl rfl rfl (by decide) (FW_46 S hW) ⟨rfl, rfl⟩ rfl ?_
              change PQ _ _ _ mm_X12_isSpent 0 [.ref 46, .int 4, pm_un, pm_un, pm_un] [] _ _ 0 0 _
              refine q_iload_n rfl rfl rfl ?_
              refine q_ifne rfl rfl (fun c762 => absurd c762 (by decide)) (fun c762 => ?_)
              refine q_iconst rfl rfl ?_
              refine q_ist2n rfl rfl rfl rfl ?_
              refine q_aload_n rfl rfl rfl ?_
              refine q_iconst rfl rfl ?_
              refine q_putf rfl rfl (by decide) (FW_46 S hW) (by decide) rfl trivial ?_
              refine q_aload_n rfl rfl rfl ?_
              refine q_getf rfl rfl (by decide) rfl rfl ?_
              refine q_iload_n rfl rfl rfl ?_
              refine q_iald rfl rfl (by decide) (FW_62 S hW) (by decide) (q_tn (z := 0) rfl ?_)
              refine q_ifeq rfl rfl (fun c763 => ?_) (fun c763 => absurd (by decide) c763)
              refine q_aload_n rfl rfl rfl ?_
              refine q_getf rfl rfl (by decide) rfl rfl ?_
              refine q_iload_n rfl rfl rfl ?_
              refine q_aload_n rfl rfl rfl ?_
              refine q_iload_n rfl rfl rfl ?_
              refine q_iload_n rfl rfl rfl ?_
              refine q_nV2 rfl rfl (Or.inl rfl) rfl rfl rfl (by decide) rfl ⟨rfl, rfl⟩ rfl ?_
              change PQ _ _ _ mm_X12_explore 0 [.ref 46, .int 1, .int 4, pm_un, pm_un, pm_un, pm_un, pm_un] [] _ _ 0 0 _
              refine q_iconst rfl rfl ?_
              refine q_ist3n rfl rfl rfl rfl ?_
              refine l_net (R := 1) (by decide) rfl (by decide) rfl rfl (FW_61 S hW) ?_
              refine q_aload_n rfl rfl rfl ?_
              refine q_getf rfl rfl (by decide) rfl rfl ?_
              refine q_iload_n rfl rfl rfl ?_
              refine q_iconst rfl rfl ?_
              refine q_iast rfl rfl (by decide) (FW_60 S hW) (by decide) ?_
              refine q_aload_n rfl rfl rfl ?_
              refine q_nV0v rfl rfl (Or.inl rfl) rfl rfl rfl (by decide) rfl ⟨rfl, rfl⟩ rfl ?_
              change PQ _ _ _ mm_X12_firstState 0 [.ref 46, pm_un] [] _ _ 0 0 _
              refine q_iconst rfl rfl ?_
              refine q_ist1n rfl rfl rfl rfl ?_
              refine q_iload_n rfl rfl rfl ?_
              refine q_bipush rfl rfl ?_
              refine q_icge rfl rfl (fun c764 => absurd c764 (by decide)) (fun c764 => ?_)
              refine q_aload_n rfl rfl rfl ?_
              refine q_getf rfl rfl (by decide) rfl rfl ?_
              refine q_iload_n rfl rfl rfl ?_
              refine q_iconst rfl rfl ?_
              refine q_iast rfl rfl (by decide) (FW_52 S hW) (by decide) ?_
              refine q_icc1 (z := 1) rfl rfl rfl rfl rfl ?_
              refine q_goto rfl ?_
              refine q_iload_n rfl rfl rfl ?_
              refine q_bipush rfl rfl ?_
              refine q_icge rfl rfl (fun c765 => absurd c765 (by decide)) (fun c765 => ?_)
              refine q_aload_n rfl rfl rfl ?_
              refine q_getf rfl rfl (by decide) rfl rfl ?_
              refine q_iload_n rfl rfl rfl ?_
              refine q_iconst rfl rfl ?_
              refine q_iast rfl rfl (by decide) rfl (by decide) ?_
              refine q_icc1 (z := 2) rfl rfl rfl rfl rfl ?_
              refine q_goto rfl ?_
              refine q_iload_n rfl rfl rfl ?_
              refine q_bipush rfl rfl ?_
              refine q_icge rfl rfl (fun c766 => absurd c766 (by decide)) (fun c766 => ?_)
              refine q_aload_n rfl rfl rfl ?_
              refine q_getf rfl rfl (by decide) rfl rfl ?_
              refine q_iload_n rfl rfl rfl ?_
              refine q_iconst rfl rfl ?_
              refine q_iast rfl rfl (by decide) rfl (by decide) ?_
              refine q_icc1 (z := 3) rfl rfl rfl rfl rfl ?_
              refine q_goto rfl ?_
              refine q_iload_n rfl rfl rfl ?_
              refine q_bipush rfl rfl ?_
              refine q_icge rfl rfl (fun c767 => absurd c767 (by decide)) (fun c767 => ?_)
              refine q_aload_n rfl rfl rfl ?_
              refine q_getf rfl rfl (by decide) rfl rfl ?_
              refine q_iload_n rfl rfl rfl ?_
              refine q_iconst rfl rfl ?_
              refine q_iast rfl rfl (by decide) rfl (by decide) ?_
              refine q_icc1 (z := 4) rfl rfl rfl rfl rfl ?_
              refine q_goto rfl ?_
              refine q_iload_n rfl rfl rfl ?_
              refine q_bipush rfl rfl ?_
              refine q_icge rfl rfl (fun c768 => absurd c768 (by decide)) (fun c768 => ?_)
              refine q_aload_n rfl rfl rfl ?_
              refine q_getf rfl rfl (by decide) rfl rfl ?_
              refine q_iload_n rfl rfl rfl ?_
              refine q_iconst rfl rfl ?_
              refine q_iast rfl rfl (by decide) rfl (by decide) ?_
              refine q_icc1 (z := 5) rfl rfl rfl rfl rfl ?_
              refine q_goto rfl ?_
              refine q_iload_n rfl rfl rfl ?_
              refine q_bipush rfl rfl ?_
              refine q_icge rfl rfl (fun c769 => absurd c769 (by decide)) (fun c769 => ?_)
              refine q_aload_n rfl rfl rfl ?_
              refine q_getf rfl rfl (by decide) rfl rfl ?_
              refine q_iload_n rfl rfl rfl ?_
              refine q_iconst rfl rfl ?_
              refine q_iast rfl rfl (by decide) rfl (by decide) ?_
              refine q_icc1 (z := 6) rfl rfl rfl rfl rfl ?_
              refine q_goto rfl ?_
              refine q_iload_n rfl rfl rfl ?_
              refine q_bipush rfl rfl ?_
              refine q_icge rfl rfl (fun c770 => absurd c770 (by decide)) (fun c770 => ?_)
              refine q_aload_n rfl rfl rfl ?_
              refine q_getf rfl rfl (by decide) rfl rfl ?_
              refine q_iload_n rfl rfl rfl ?_
              refine q_iconst rfl rfl ?_
              refine q_iast rfl rfl (by decide) rfl (by decide) ?_
              refine q_icc1 (z := 7) rfl rfl rfl rfl rfl ?_
              refine q_goto rfl ?_
              refine q_iload_n rfl rfl rfl ?_
              refine q_bipush rfl rfl ?_
              refine q_icge rfl rfl (fun c771 => absurd c771 (by decide)) (fun c771 => ?_)
              refine q_aload_n rfl rfl rfl ?_
              refine q_getf rfl rfl (by decide) rfl rfl ?_
              refine q_iload_n rfl rfl rfl ?_
              refine q_iconst rfl rfl ?_
              refine q_iast rfl rfl (by decide) rfl (by decide) ?_
              refine q_icc1 (z := 8) rfl rfl rfl rfl rfl ?_
              refine q_goto rfl ?_
              refine q_iload_n rfl rfl rfl ?_
              refine q_bipush rfl rfl ?_
              refine q_icge rfl rfl (fun c772 => absurd c772 (by decide)) (fun c772 => ?_)
              refine q_aload_n rfl rfl rfl ?_
              refine q_getf rfl rfl (by decide) rfl rfl ?_
              refine q_iload_n rfl rfl rfl ?_
              refine q_iconst rfl rfl ?_
              refine q_iast rfl rfl (by decide) rfl (by decide) ?_
              refine q_icc1 (z := 9) rfl rfl rfl rfl rfl ?_
              refine q_goto rfl ?_
              refine q_iload_n rfl rfl rfl ?_
              refine q_bipush rfl rfl ?_
              refine q_icge rfl rfl (fun c773 => absurd c773 (by decide)) (fun c773 => ?_)
              refine q_aload_n rfl rfl rfl ?_
              refine q_getf rfl rfl (by decide) rfl rfl ?_
              refine q_iload_n rfl rfl rfl ?_
              refine q_iconst rfl rfl ?_
              refine q_iast rfl rfl (by decide) rfl (by decide) ?_
              refine q_icc1 (z := 10) rfl rfl rfl rfl rfl ?_
              refine q_goto rfl ?_
              refine q_iload_n rfl rfl rfl ?_
              refine q_bipush rfl rfl ?_
              refine q_icge rfl rfl (fun c774 => absurd c774 (by decide)) (fun c774 => ?_)
              refine q_aload_n rfl rfl rfl ?_
              refine q_getf rfl rfl (by decide) rfl rfl ?_
              refine q_iload_n rfl rfl rfl ?_
              refine q_iconst rfl rfl ?_
              refine q_iast rfl rfl (by decide) rfl (by decide) ?_
              refine q_icc1 (z := 11) rfl rfl rfl rfl rfl ?_
              refine q_goto rfl ?_
              refine q_iload_n rfl rfl rfl ?_
              refine q_bipush rfl rfl ?_
              refine q_icge rfl rfl (fun c775 => absurd c775 (by decide)) (fun c775 => ?_)
              refine q_aload_n rfl rfl rfl ?_
              refine q_getf rfl rfl (by decide) rfl rfl ?_
              refine q_iload_n rfl rfl rfl ?_
              refine q_iconst rfl rfl ?_
              refine q_iast rfl rfl (by decide) rfl (by decide) ?_
              refine q_icc1 (z := 12) rfl rfl rfl rfl rfl ?_
              refine q_goto rfl ?_
              refine q_iload_n rfl rfl rfl ?_
              refine q_bipush rfl rfl ?_
              refine q_icge rfl rfl (fun c776 => absurd c776 (by decide)) (fun c776 => ?_)
              refine q_aload_n rfl rfl rfl ?_
              refine q_getf rfl rfl (by decide) rfl rfl ?_
              refine q_iload_n rfl rfl rfl ?_
              refine q_iconst rfl rfl ?_
              refine q_iast rfl rfl (by decide) rfl (by decide) ?_
              refine q_icc1 (z := 13) rfl rfl rfl rfl rfl ?_
              refine q_goto rfl ?_
              refine q_iload_n rfl rfl rfl ?_
              refine q_bipush rfl rfl ?_
              refine q_icge rfl rfl (fun c777 => absurd c777 (by decide)) (fun c777 => ?_)
              refine q_aload_n rfl rfl rfl ?_
              refine q_getf rfl rfl (by decide) rfl rfl ?_
              refine q_iload_n rfl rfl rfl ?_
              refine q_iconst rfl rfl ?_
              refine q_iast rfl rfl (by decide) rfl (by decide) ?_
              refine q_icc1 (z := 14) rfl rfl rfl rfl rfl ?_
              refine q_goto rfl ?_
              refine q_iload_n rfl rfl rfl ?_
              refine q_bipush rfl rfl ?_
              refine q_icge rfl rfl (fun c778 => absurd c778 (by decide)) (fun c778 => ?_)
              refine q_aload_n rfl rfl rfl ?_
              refine q_getf rfl rfl (by decide) rfl rfl ?_
              refine q_iload_n rfl rfl rfl ?_
              refine q_iconst rfl rfl ?_
              refine q_iast rfl rfl (by decide) rfl (by decide) ?_
              refine q_icc1 (z := 15) rfl rfl rfl rfl rfl ?_
              refine q_goto rfl ?_
              refine q_iload_n rfl rfl rfl ?_
              refine q_bipush rfl rfl ?_
              refine q_icge rfl rfl (fun c779 => absurd c779 (by decide)) (fun c779 => ?_)
              refine q_aload_n rfl rfl rfl ?_
              refine q_getf rfl rfl (by decide) rfl rfl ?_
              refine q_iload_n rfl rfl rfl ?_
              refine q_iconst rfl rfl ?_
              refine q_iast rfl rfl (by decide) rfl (by decide) ?_
              refine q_icc1 (z := 16) rfl rfl rfl rfl rfl ?_
              refine q_goto rfl ?_
              refine q_iload_n rfl rfl rfl ?_
              refine q_bipush rfl rfl ?_
              refine q_icge rfl rfl (fun c780 => absurd c780 (by decide)) (fun c780 => ?_)
              refine q_aload_n rfl rfl rfl ?_
              refine q_getf rfl rfl (by decide) rfl rfl ?_
              refine q_iload_n rfl rfl rfl ?_
              refine q_iconst rfl rfl ?_
              refine q_iast rfl rfl (by decide) rfl (by decide) ?_
              refine q_icc1 (z := 17) rfl rfl rfl rfl rfl ?_
              refine q_goto rfl ?_
              refine q_iload_n rfl rfl rfl ?_
              refine q_bipush rfl rfl ?_
              refine q_icge rfl rfl (fun c781 => absurd c781 (by decide)) (fun c781 => ?_)
              refine q_aload_n rfl rfl rfl ?_
              refine q_getf rfl rfl (by decide) rfl rfl ?_
              refine q_iload_n rfl rfl rfl ?_
              refine q_iconst rfl rfl ?_
              refine q_iast rfl rfl (by decide) rfl (by decide) ?_
              refine q_icc1 (z := 18) rfl rfl rfl rfl rfl ?_
              refine q_goto rfl ?_
              refine q_iload_n rfl rfl rfl ?_
              refine q_bipush rfl rfl ?_
              refine q_icge rfl rfl (fun c782 => absurd c782 (by decide)) (fun c782 => ?_)
              refine q_aload_n rfl rfl rfl ?_
              refine q_getf rfl rfl (by decide) rfl rfl ?_
              refine q_iload_n rfl rfl rfl ?_
              refine q_iconst rfl rfl ?_
              refine q_iast rfl rfl (by decide) rfl (by decide) ?_
              refine q_icc1 (z := 19) rfl rfl rfl rfl rfl ?_
              refine q_goto rfl ?_
              refine q_iload_n rfl rfl rfl ?_
              refine q_bipush rfl rfl ?_
              refine q_icge rfl rfl (fun c783 => absurd c783 (by decide)) (fun c783 => ?_)
              refine q_aload_n rfl rfl rfl ?_
              refine q_getf rfl rfl (by decide) rfl rfl ?_
              refine q_iload_n rfl rfl rfl ?_
              refine q_iconst rfl rfl ?_
              refine q_iast rfl rfl (by decide) rfl (by decide) ?_
              refine q_icc1 (z := 20) rfl rfl rfl rfl rfl ?_
              refine q_goto rfl ?_
              refine q_iload_n rfl rfl rfl ?_
              refine q_bipush rfl rfl ?_
              refine q_icge rfl rfl (fun c784 => ?_) (fun c784 => absurd (by decide) c784)
              refine q_iconst rfl rfl ?_
              refine q_ist1n rfl rfl rfl rfl ?_
              refine q_iload_n rfl rfl rfl ?_
              refine q_aload_n rfl rfl rfl ?_
              refine q_getf rfl rfl (by decide) rfl rfl ?_
              refine q_icge rfl rfl (fun c785 => absurd c785 (by decide)) (fun c785 => ?_)
              refine q_aload_n rfl rfl rfl ?_
              refine q_getf rfl rfl (by decide) rfl rfl ?_
              refine q_iconst rfl rfl ?_
              refine q_iload_n rfl rfl rfl ?_
              refine q_imul rfl rfl (q_tn (z := 0) rfl ?_)
              refine q_aload_n rfl rfl rfl ?_
              refine q_getf rfl rfl (by decide) rfl rfl ?_
              refine q_aload_n rfl rfl rfl ?_
              refine q_getf rfl rfl (by decide) rfl rfl ?_
              refine q_iload_n rfl rfl rfl ?_
              refine q_iadd rfl rfl (q_tn (z := 0) rfl ?_)
              refine q_iald rfl rfl (by decide) (FW_47 S hW) (by decide) (q_tn (z := 0) rfl ?_)
              refine q_ifne rfl rfl (fun c786 => ?_) (fun c786 => absurd (by decide) c786)
              refine q_bipush rfl rfl ?_
              refine q_goto rfl ?_
              refine q_iast rfl rfl (by decide) rfl (by decide) ?_
              refine q_icc1 (z := 1) rfl rfl rfl rfl rfl ?_
              refine q_goto rfl ?_
              refine q_iload_n rfl rfl rfl ?_
              refine q_aload_n rfl rfl rfl ?_
              refine q_getf rfl rfl (by decide) rfl rfl ?_
              refine q_icge rfl rfl (fun c787 => ?_) (fun c787 => absurd (by decide) c787)
              refine q_iconst rfl rfl ?_
              refine q_ist1n rfl rfl rfl rfl ?_
              refine q_iload_n rfl rfl rfl ?_
              refine q_iconst rfl rfl ?_
              refine q_icge rfl rfl (fun c788 => absurd c788 (by decide)) (fun c788 => ?_)
              refine q_aload_n rfl rfl rfl ?_
              refine q_getf rfl rfl (by decide) rfl rfl ?_
              refine q_bipush rfl rfl ?_
              refine q_iload_n rfl rfl rfl ?_
              refine q_iadd rfl rfl (q_tn (z := 12) rfl ?_)
              refine q_aload_n rfl rfl rfl ?_
              refine q_getf rfl rfl (by decide) rfl rfl ?_
              refine q_iload_n rfl rfl rfl ?_
              refine q_iald rfl rfl (by decide) (FW_51 S hW) (by decide) (q_tn (z := 0) rfl ?_)
              refine q_iast rfl rfl (by decide) rfl (by decide) ?_
              refine q_icc1 (z := 1) rfl rfl rfl rfl rfl ?_
              refine q_goto rfl ?_
              refine q_iload_n rfl rfl rfl ?_
              refine q_iconst rfl rfl ?_
              refine q_icge rfl rfl (fun c789 => absurd c789 (by decide)) (fun c789 => ?_)
              refine q_aload_n rfl rfl rfl ?_
              refine q_getf rfl rfl (by decide) rfl rfl ?_
              refine q_bipush rfl rfl ?_
              refine q_iload_n rfl rfl rfl ?_
              refine q_iadd rfl rfl (q_tn (z := 13) rfl ?_)
              refine q_aload_n rfl rfl rfl ?_
              refine q_getf rfl rfl (by decide) rfl rfl ?_
              refine q_iload_n rfl rfl rfl ?_
              refine q_iald rfl rfl (by decide) (FW_51 S hW) (by decide) (q_tn (z := 0) rfl ?_)
              refine q_iast rfl rfl (by decide) rfl (by decide) ?_
              refine q_icc1 (z := 2) rfl rfl rfl rfl rfl ?_
              refine q_goto rfl ?_
              refine q_iload_n rfl rfl rfl ?_
              refine q_iconst rfl rfl ?_
              refine q_icge rfl rfl (fun c790 => absurd c790 (by decide)) (fun c790 => ?_)
              refine q_aload_n rfl rfl rfl ?_
              refine q_getf rfl rfl (by decide) rfl rfl ?_
              refine q_bipush rfl rfl ?_
              refine q_iload_n rfl rfl rfl ?_
              refine q_iadd rfl rfl (q_tn (z := 14) rfl ?_)
              refine q_aload_n rfl rfl rfl ?_
              refine q_getf rfl rfl (by decide) rfl rfl ?_
              refine q_iload_n rfl rfl rfl ?_
              refine q_iald rfl rfl (by decide) (FW_51 S hW) (by decide) (q_tn (z := 0) rfl ?_)
              refine q_iast rfl rfl (by decide) rfl (by decide) ?_
              refine q_icc1 (z := 3) rfl rfl rfl rfl rfl ?_
              refine q_goto rfl ?_
              refine q_iload_n rfl rfl rfl ?_
              refine q_iconst rfl rfl ?_
              refine q_icge rfl rfl (fun c791 => absurd c791 (by decide)) (fun c791 => ?_)
              refine q_aload_n rfl rfl rfl ?_
              refine q_getf rfl rfl (by decide) rfl rfl ?_
              refine q_bipush rfl rfl ?_
              refine q_iload_n rfl rfl rfl ?_
              refine q_iadd rfl rfl (q_tn (z := 15) rfl ?_)
              refine q_aload_n rfl rfl rfl ?_
              refine q_getf rfl rfl (by decide) rfl rfl ?_
              refine q_iload_n rfl rfl rfl ?_
              refine q_iald rfl rfl (by decide) (FW_51 S hW) (by decide) (q_tn (z := 0) rfl ?_)
              refine q_iast rfl rfl (by decide) rfl (by decide) ?_
              refine q_icc1 (z := 4) rfl rfl rfl rfl rfl ?_
              refine q_goto rfl ?_
              refine q_iload_n rfl rfl rfl ?_
              refine q_iconst rfl rfl ?_
              refine q_icge rfl rfl (fun c792 => ?_) (fun c792 => absurd (by decide) c792)
              refine q_ret rfl rfl ?_
              refine ⟨rfl, ?_⟩
              refine q_iconst rfl rfl ?_
              refine q_ist3n rfl rfl rfl rfl ?_
              refine q_iload_n rfl rfl rfl ?_
              refine q_bipush rfl rfl ?_
              refine q_icge rfl rfl (fun c793 => absurd c793 (by decide)) (fun c793 => ?_)
              refine q_aload_n rfl rfl rfl ?_
              refine q_getf rfl rfl (by decide) rfl rfl ?_
              refine q_iload_n rfl rfl rfl ?_
              refine q_aload_n rfl rfl rfl ?_
              refine q_getf rfl rfl (by decide) rfl rfl ?_
              refine q_iload_n rfl rfl rfl ?_
              refine q_iald rfl rfl (by decide) rfl (by decide) (q_tn (z := 10) rfl ?_)
              refine q_iast rfl rfl (by decide) (FW_53 S hW) (by decide) ?_
              refine q_icc3 (z := 1) rfl rfl rfl rfl rfl ?_
              refine q_goto rfl ?_
              refine q_iload_n rfl rfl rfl ?_
              refine q_bipush rfl rfl ?_
              refine q_icge rfl rfl (fun c794 => absurd c794 (by decide)) (fun c794 => ?_)
              refine q_aload_n rfl rfl rfl ?_
              refine q_getf rfl rfl (by decide) rfl rfl ?_
              refine q_iload_n rfl rfl rfl ?_
              refine q_aload_n rfl rfl rfl ?_
              refine q_getf rfl rfl (by decide) rfl rfl ?_
              refine q_iload_n rfl rfl rfl ?_
              refine q_iald rfl rfl (by decide) rfl (by decide) (q_tn (z := 0) rfl ?_)
              refine q_iast rfl rfl (by decide) rfl (by decide) ?_
              refine q_icc3 (z := 2) rfl rfl rfl rfl rfl ?_
              refine q_goto rfl ?_
              refine q_iload_n rfl rfl rfl ?_
              refine q_bipush rfl rfl ?_
              refine q_icge rfl rfl (fun c795 => absurd c795 (by decide)) (fun c795 => ?_)
              refine q_aload_n rfl rfl rfl ?_
              refine q_getf rfl rfl (by decide) rfl rfl ?_
              refine q_iload_n rfl rfl rfl ?_
              refine q_aload_n rfl rfl rfl ?_
              refine q_getf rfl rfl (by decide) rfl rfl ?_
              refine q_iload_n rfl rfl rfl ?_
              refine q_iald rfl rfl (by decide) rfl (by decide) (q_tn (z := 0) rfl ?_)
              refine q_iast rfl rfl (by decide) rfl (by decide) ?_
              refine q_icc3 (z := 3) rfl rfl rfl rfl rfl ?_
              refine q_goto rfl ?_
              refine q_iload_n rfl rfl rfl ?_
              refine q_bipush rfl rfl ?_
              refine q_icge rfl rfl (fun c796 => absurd c796 (by decide)) (fun c796 => ?_)
              refine q_aload_n rfl rfl rfl ?_
              refine q_getf rfl rfl (by decide) rfl rfl ?_
              refine q_iload_n rfl rfl rfl ?_
              refine q_aload_n rfl rfl rfl ?_
              refine q_getf rfl rfl (by decide) rfl rfl ?_
              refine q_iload_n rfl rfl rfl ?_
              refine q_iald rfl rfl (by decide) rfl (by decide) (q_tn (z := 0) rfl ?_)
              refine q_iast rfl rfl (by decide) rfl (by decide) ?_
              refine q_icc3 (z := 4) rfl rfl rfl rfl rfl ?_
              refine q_goto rfl ?_
              refine q_iload_n rfl rfl rfl ?_
              refine q_bipush rfl rfl ?_
              refine q_icge rfl rfl (fun c797 => absurd c797 (by decide)) (fun c797 => ?_)
              refine q_aload_n rfl rfl rfl ?_
              refine q_getf rfl rfl (by decide) rfl rfl ?_
              refine q_iload_n rfl rfl rfl ?_
              refine q_aload_n rfl rfl rfl ?_
              refine q_getf rfl rfl (by decide) rfl rfl ?_
              refine q_iload_n rfl rfl rfl ?_
              refine q_iald rfl rfl (by decide) rfl (by decide) (q_tn (z := 0) rfl ?_)
              refine q_iast rfl rfl (by decide) rfl (by decide) ?_
              refine q_icc3 (z := 5) rfl rfl rfl rfl rfl ?_
              refine q_goto rfl ?_
              refine q_iload_n rfl rfl rfl ?_
              refine q_bipush rfl rfl ?_
              refine q_icge rfl rfl (fun c798 => absurd c798 (by decide)) (fun c798 => ?_)
              refine q_aload_n rfl rfl rfl ?_
              refine q_getf rfl rfl (by decide) rfl rfl ?_
              refine q_iload_n rfl rfl rfl ?_
              refine q_aload_n rfl rfl rfl ?_
              refine q_getf rfl rfl (by decide) rfl rfl ?_
              refine q_iload_n rfl rfl rfl ?_
              refine q_iald rfl rfl (by decide) rfl (by decide) (q_tn (z := 0) rfl ?_)
              refine q_iast rfl rfl (by decide) rfl (by decide) ?_
              refine q_icc3 (z := 6) rfl rfl rfl rfl rfl ?_
              refine q_goto rfl ?_
              refine q_iload_n rfl rfl rfl ?_
              refine q_bipush rfl rfl ?_
              refine q_icge rfl rfl (fun c799 => absurd c799 (by decide)) (fun c799 => ?_)
              refine q_aload_n rfl rfl rfl ?_
              refine q_getf rfl rfl (by decide) rfl rfl ?_
              refine q_iload_n rfl rfl rfl ?_
              refine q_aload_n rfl rfl rfl ?_
              refine q_getf rfl rfl (by decide) rfl rfl ?_
              refine q_iload_n rfl rfl rfl ?_
              refine q_iald rfl rfl (by decide) rfl (by decide) (q_tn (z := 0) rfl ?_)
              refine q_iast rfl rfl (by decide) rfl (by decide) ?_
              refine q_icc3 (z := 7) rfl rfl rfl rfl rfl ?_
              refine q_goto rfl ?_
              refine q_iload_n rfl rfl rfl ?_
              refine q_bipush rfl rfl ?_
              refine q_icge rfl rfl (fun c800 => absurd c800 (by decide)) (fun c800 => ?_)
              refine q_aload_n rfl rfl rfl ?_
              refine q_getf rfl rfl (by decide) rfl rfl ?_
              refine q_iload_n rfl rfl rfl ?_
              refine q_aload_n rfl rfl rfl ?_
              refine q_getf rfl rfl (by decide) rfl rfl ?_
              refine q_iload_n rfl rfl rfl ?_
              refine q_iald rfl rfl (by decide) rfl (by decide) (q_tn (z := 0) rfl ?_)
              refine q_iast rfl rfl (by decide) rfl (by decide) ?_
              refine q_icc3 (z := 8) rfl rfl rfl rfl rfl ?_
              refine q_goto rfl ?_
              refine q_iload_n rfl rfl rfl ?_
              refine q_bipush rfl rfl ?_
              refine q_icge rfl rfl (fun c801 => absurd c801 (by decide)) (fun c801 => ?_)
              refine q_aload_n rfl rfl rfl ?_
              refine q_getf rfl rfl (by decide) rfl rfl ?_
              refine q_iload_n rfl rfl rfl ?_
              refine q_aload_n rfl rfl rfl ?_
              refine q_getf rfl rfl (by decide) rfl rfl ?_
              refine q_iload_n rfl rfl rfl ?_
              refine q_iald rfl rfl (by decide) rfl (by decide) (q_tn (z := 0) rfl ?_)
              refine q_iast rfl rfl (by decide) rfl (by decide) ?_
              refine q_icc3 (z := 9) rfl rfl rfl rfl rfl ?_
              refine q_goto rfl ?_
              refine q_iload_n rfl rfl rfl ?_
              refine q_bipush rfl rfl ?_
              refine q_icge rfl rfl (fun c802 => absurd c802 (by decide)) (fun c802 => ?_)
              refine q_aload_n rfl rfl rfl ?_
              refine q_getf rfl rfl (by decide) rfl rfl ?_
              refine q_iload_n rfl rfl rfl ?_
              refine q_aload_n rfl rfl rfl ?_
              refine q_getf rfl rfl (by decide) rfl rfl ?_
              refine q_iload_n rfl rfl rfl ?_
              refine q_iald rfl rfl (by decide) rfl (by decide) (q_tn (z := 0) rfl ?_)
              refine q_iast rfl rfl (by decide) rfl (by decide) ?_
              refine q_icc3 (z := 10) rfl rfl rfl rfl rfl ?_
              refine q_goto rfl ?_
              refine q_iload_n rfl rfl rfl ?_
              refine q_bipush rfl rfl ?_
              refine q_icge rfl rfl (fun c803 => absurd c803 (by decide)) (fun c803 => ?_)
              refine q_aload_n rfl rfl rfl ?_
              refine q_getf rfl rfl (by decide) rfl rfl ?_
              refine q_iload_n rfl rfl rfl ?_
              refine q_aload_n rfl rfl rfl ?_
              refine q_getf rfl rfl (by decide) rfl rfl ?_
              refine q_iload_n rfl rfl rfl ?_
              refine q_iald rfl rfl (by decide) rfl (by decide) (q_tn (z := 0) rfl ?_)
              refine q_iast rfl rfl (by decide) rfl (by decide) ?_
              refine q_icc3 (z := 11) rfl rfl rfl rfl rfl ?_
              refine q_goto rfl ?_
              refine q_iload_n rfl rfl rfl ?_
              refine q_bipush rfl rfl ?_
              refine q_icge rfl rfl (fun c804 => absurd c804 (by decide)) (fun c804 => ?_)
              refine q_aload_n rfl rfl rfl ?_
              refine q_getf rfl rfl (by decide) rfl rfl ?_
              refine q_iload_n rfl rfl rfl ?_
              refine q_aload_n rfl rfl rfl ?_
              refine q_getf rfl rfl (by decide) rfl rfl ?_
              refine q_iload_n rfl rfl rfl ?_
              refine q_iald rfl rfl (by decide) rfl (by decide) (q_tn (z := 0) rfl ?_)
              refine q_iast rfl rfl (by decide) rfl (by decide) ?_
              refine q_icc3 (z := 12) rfl rfl rfl rfl rfl ?_
              refine q_goto rfl ?_
              refine q_iload_n rfl rfl rfl ?_
              refine q_bipush rfl rfl ?_
              refine q_icge rfl rfl (fun c805 => absurd c805 (by decide)) (fun c805 => ?_)
              refine q_aload_n rfl rfl rfl ?_
              refine q_getf rfl rfl (by decide) rfl rfl ?_
              refine q_iload_n rfl rfl rfl ?_
              refine q_aload_n rfl rfl rfl ?_
              refine q_getf rfl rfl (by decide) rfl rfl ?_
              refine q_iload_n rfl rfl rfl ?_
              refine q_iald rfl rfl (by decide) rfl (by decide) (q_tn (z := 0) rfl ?_)
              refine q_iast rfl rfl (by decide) rfl (by decide) ?_
              refine q_icc3 (z := 13) rfl rfl rfl rfl rfl ?_
              refine q_goto rfl ?_
              refine q_iload_n rfl rfl rfl ?_
              refine q_bipush rfl rfl ?_
              refine q_icge rfl rfl (fun c806 => absurd c806 (by decide)) (fun c806 => ?_)
              refine q_aload_n rfl rfl rfl ?_
              refine q_getf rfl rfl (by decide) rfl rfl ?_
              refine q_iload_n rfl rfl rfl ?_
              refine q_aload_n rfl rfl rfl ?_
              refine q_getf rfl rfl (by decide) rfl rfl ?_
              refine q_iload_n rfl rfl rfl ?_
              refine q_iald rfl rfl (by decide) rfl (by decide) (q_tn (z := 0) rfl ?_)
              refine q_iast rfl rfl (by decide) rfl (by decide) ?_
              refine q_icc3 (z := 14) rfl rfl rfl rfl rfl ?_
              refine q_goto rfl ?_
              refine q_iload_n rfl rfl rfl ?_
              refine q_bipush rfl rfl ?_
              refine q_icge rfl rfl (fun c807 => absurd c807 (by decide)) (fun c807 => ?_)
              refine q_aload_n rfl rfl rfl ?_
              refine q_getf rfl rfl (by decide) rfl rfl ?_
              refine q_iload_n rfl rfl rfl ?_
              refine q_aload_n rfl rfl rfl ?_
              refine q_getf rfl rfl (by decide) rfl rfl ?_
              refine q_iload_n rfl rfl rfl ?_
              refine q_iald rfl rfl (by decide) rfl (by decide) (q_tn (z := 0) rfl ?_)
              refine q_iast rfl rfl (by decide) rfl (by decide) ?_
              refine q_icc3 (z := 15) rfl rfl rfl rfl rfl ?_
              refine q_goto rfl ?_
              refine q_iload_n rfl rfl rfl ?_
              refine q_bipush rfl rfl ?_
              refine q_icge rfl rfl (fun c808 => absurd c808 (by decide)) (fun c808 => ?_)
              refine q_aload_n rfl rfl rfl ?_
              refine q_getf rfl rfl (by decide) rfl rfl ?_
              refine q_iload_n rfl rfl rfl ?_
              refine q_aload_n rfl rfl rfl ?_
              refine q_getf rfl rfl (by decide) rfl rfl ?_
              refine q_iload_n rfl rfl rfl ?_
              refine q_iald rfl rfl (by decide) rfl (by decide) (q_tn (z := 0) rfl ?_)
              refine q_iast rfl rfl (by decide) rfl (by decide) ?_
              refine q_icc3 (z := 16) rfl rfl rfl rfl rfl ?_
              refine q_goto rfl ?_
              refine q_iload_n rfl rfl rfl ?_
              refine q_bipush rfl rfl ?_
              refine q_icge rfl rfl (fun c809 => absurd c809 (by decide)) (fun c809 => ?_)
              refine q_aload_n rfl rfl rfl ?_
              refine q_getf rfl rfl (by decide) rfl rfl ?_
              refine q_iload_n rfl rfl rfl ?_
              refine q_aload_n rfl rfl rfl ?_
              refine q_getf rfl rfl (by decide) rfl rfl ?_
              refine q_iload_n rfl rfl rfl ?_
              refine q_iald rfl rfl (by decide) rfl (by decide) (q_tn (z := 0) rfl ?_)
              refine q_iast rfl rfl (by decide) rfl (by decide) ?_
              refine q_icc3 (z := 17) rfl rfl rfl rfl rfl ?_
              refine q_goto rfl ?_
              refine q_iload_n rfl rfl rfl ?_
              refine q_bipush rfl rfl ?_
              refine q_icge rfl rfl (fun c810 => absurd c810 (by decide)) (fun c810 => ?_)
              refine q_aload_n rfl rfl rfl ?_
              refine q_getf rfl rfl (by decide) rfl rfl ?_
              refine q_iload_n rfl rfl rfl ?_
              refine q_aload_n rfl rfl rfl ?_
              refine q_getf rfl rfl (by decide) rfl rfl ?_
              refine q_iload_n rfl rfl rfl ?_
              refine q_iald rfl rfl (by decide) rfl (by decide) (q_tn (z := 0) rfl ?_)
              refine q_iast rfl rfl (by decide) rfl (by decide) ?_
              refine q_icc3 (z := 18) rfl rfl rfl rfl rfl ?_
              refine q_goto rfl ?_
              refine q_iload_n rfl rfl rfl ?_
              refine q_bipush rfl rfl ?_
              refine q_icge rfl rfl (fun c811 => absurd c811 (by decide)) (fun c811 => ?_)
              refine q_aload_n rfl rfl rfl ?_
              refine q_getf rfl rfl (by decide) rfl rfl ?_
              refine q_iload_n rfl rfl rfl ?_
              refine q_aload_n rfl rfl rfl ?_
              refine q_getf rfl rfl (by decide) rfl rfl ?_
              refine q_iload_n rfl rfl rfl ?_
              refine q_iald rfl rfl (by decide) rfl (by decide) (q_tn (z := 0) rfl ?_)
              refine q_iast rfl rfl (by decide) rfl (by decide) ?_
              refine q_icc3 (z := 19) rfl rfl rfl rfl rfl ?_
              refine q_goto rfl ?_
              refine q_iload_n rfl rfl rfl ?_
              refine q_bipush rfl rfl ?_
              refine q_icge rfl rfl (fun c812 => absurd c812 (by decide)) (fun c812 => ?_)
              refine q_aload_n rfl rfl rfl ?_
              refine q_getf rfl rfl (by decide) rfl rfl ?_
              refine q_iload_n rfl rfl rfl ?_
              refine q_aload_n rfl rfl rfl ?_
              refine q_getf rfl rfl (by decide) rfl rfl ?_
              refine q_iload_n rfl rfl rfl ?_
              refine q_iald rfl rfl (by decide) rfl (by decide) (q_tn (z := 0) rfl ?_)
              refine q_iast rfl rfl (by decide) rfl (by decide) ?_
              refine q_icc3 (z := 20) rfl rfl rfl rfl rfl ?_
              refine q_goto rfl ?_
              refine q_iload_n rfl rfl rfl ?_
              refine q_bipush rfl rfl ?_
              refine q_icge rfl rfl (fun c813 => ?_) (fun c813 => absurd (by decide) c813)
              refine q_aload_n rfl rfl rfl ?_
              refine q_iload_n rfl rfl rfl ?_
              refine q_iconst rfl rfl ?_
              refine q_iconst rfl rfl ?_
              refine q_nV3 rfl rfl (Or.inl rfl) rfl rfl rfl (by decide) rfl ⟨rfl, rfl⟩ rfl ?_
              change PQ _ _ _ mm_X12_put 0 [.ref 46, .int 1, .int (-1), .int (-1), pm_un, pm_un, pm_un] [] _ _ 0 0 _
              refine q_aload_n rfl rfl rfl ?_
              refine q_getf rfl rfl (by decide) rfl rfl ?_
              refine q_iload_n rfl rfl rfl ?_
              refine q_iald rfl rfl (by decide) rfl (by decide) (q_tn (z := 0) rfl ?_)
              refine q_ist4 rfl rfl rfl rfl ?_
              refine q_iload rfl rfl rfl ?_
              refine q_sipush rfl rfl ?_
              refine q_icne rfl rfl (fun c814 => absurd c814 (by decide)) (fun c814 => ?_)
              refine q_sipush rfl rfl ?_
              refine q_iload_n rfl rfl rfl ?_
              refine q_imul rfl rfl (q_tn (z := 2000) rfl ?_)
              refine q_iload rfl rfl rfl ?_
              refine q_iadd rfl rfl (q_tn (z := 2000) rfl ?_)
              refine q_ist5 rfl rfl rfl rfl ?_
              refine q_iconst rfl rfl ?_
              refine q_ist6 rfl rfl rfl rfl ?_
              refine q_iload rfl rfl rfl ?_
              refine q_bipush rfl rfl ?_
              refine q_icge rfl rfl (fun c815 => absurd c815 (by decide)) (fun c815 => ?_)
              refine q_aload_n rfl rfl rfl ?_
              refine q_getf rfl rfl (by decide) rfl rfl ?_
              refine q_bipush rfl rfl ?_
              refine q_iload rfl rfl rfl ?_
              refine q_imul rfl rfl (q_tn (z := 40000) rfl ?_)
              refine q_iload rfl rfl rfl ?_
              refine q_iadd rfl rfl (q_tn (z := 40000) rfl ?_)
              refine q_aload_n rfl rfl rfl ?_
              refine q_getf rfl rfl (by decide) rfl rfl ?_
              refine q_iload rfl rfl rfl ?_
              refine q_iald rfl rfl (by decide) rfl (by decide) (q_tn (z := 10) rfl ?_)
              refine q_iast rfl rfl (by decide) (FW_55 S hW) (by decide) ?_
              refine q_icc6 (z := 1) rfl rfl rfl rfl rfl ?_
              refine q_goto rfl ?_
              refine q_iload rfl rfl rfl ?_
              refine q_bipush rfl rfl ?_
              refine q_icge rfl rfl (fun c816 => absurd c816 (by decide)) (fun c816 => ?_)
              refine q_aload_n rfl rfl rfl ?_
              refine q_getf rfl rfl (by decide) rfl rfl ?_
              refine q_bipush rfl rfl ?_
              refine q_iload rfl rfl rfl ?_
              refine q_imul rfl rfl (q_tn (z := 40000) rfl ?_)
              refine q_iload rfl rfl rfl ?_
              refine q_iadd rfl rfl (q_tn (z := 40001) rfl ?_)
              refine q_aload_n rfl rfl rfl ?_
              refine q_getf rfl rfl (by decide) rfl rfl ?_
              refine q_iload rfl rfl rfl ?_
              refine q_iald rfl rfl (by decide) rfl (by decide) (q_tn (z := 0) rfl ?_)
              refine q_iast rfl rfl (by decide) rfl (by decide) ?_
              refine q_icc6 (z := 2) rfl rfl rfl rfl rfl ?_
              refine q_goto rfl ?_
              refine q_iload rfl rfl rfl ?_
              refine q_bipush rfl rfl ?_
              refine q_icge rfl rfl (fun c817 => absurd c817 (by decide)) (fun c817 => ?_)
              refine q_aload_n rfl rfl rfl ?_
              refine q_getf rfl rfl (by decide) rfl rfl ?_
              refine q_bipush rfl rfl ?_
              refine q_iload rfl rfl rfl ?_
              refine q_imul rfl rfl (q_tn (z := 40000) rfl ?_)
              refine q_iload rfl rfl rfl ?_
              refine q_iadd rfl rfl (q_tn (z := 40002) rfl ?_)
              refine q_aload_n rfl rfl rfl ?_
              refine q_getf rfl rfl (by decide) rfl rfl ?_
              refine q_iload rfl rfl rfl ?_
              refine q_iald rfl rfl (by decide) rfl (by decide) (q_tn (z := 0) rfl ?_)
              refine q_iast rfl rfl (by decide) rfl (by decide) ?_
              refine q_icc6 (z := 3) rfl rfl rfl rfl rfl ?_
              refine q_goto rfl ?_
              refine q_iload rfl rfl rfl ?_
              refine q_bipush rfl rfl ?_
              refine q_icge rfl rfl (fun c818 => absurd c818 (by decide)) (fun c818 => ?_)
              refine q_aload_n rfl rfl rfl ?_
              refine q_getf rfl rfl (by decide) rfl rfl ?_
              refine q_bipush rfl rfl ?_
              refine q_iload rfl rfl rfl ?_
              refine q_imul rfl rfl (q_tn (z := 40000) rfl ?_)
              refine q_iload rfl rfl rfl ?_
              refine q_iadd rfl rfl (q_tn (z := 40003) rfl ?_)
              refine q_aload_n rfl rfl rfl ?_
              refine q_getf rfl rfl (by decide) rfl rfl ?_
              refine q_iload rfl rfl rfl ?_
              refine q_iald rfl rfl (by decide) rfl (by decide) (q_tn (z := 0) rfl ?_)
              refine q_iast rfl rfl (by decide) rfl (by decide) ?_
              refine q_icc6 (z := 4) rfl rfl rfl rfl rfl ?_
              refine q_goto rfl ?_
              refine q_iload rfl rfl rfl ?_
              refine q_bipush rfl rfl ?_
              refine q_icge rfl rfl (fun c819 => absurd c819 (by decide)) (fun c819 => ?_)
              refine q_aload_n rfl rfl rfl ?_
              refine q_getf rfl rfl (by decide) rfl rfl ?_
              refine q_bipush rfl rfl ?_
              refine q_iload rfl rfl rfl ?_
              refine q_imul rfl rfl (q_tn (z := 40000) rfl ?_)
              refine q_iload rfl rfl rfl ?_
              refine q_iadd rfl rfl (q_tn (z := 40004) rfl ?_)
              refine q_aload_n rfl rfl rfl ?_
              refine q_getf rfl rfl (by decide) rfl rfl ?_
              refine q_iload rfl rfl rfl ?_
              refine q_iald rfl rfl (by decide) rfl (by decide) (q_tn (z := 0) rfl ?_)
              refine q_iast rfl rfl (by decide) rfl (by decide) ?_
              refine q_icc6 (z := 5) rfl rfl rfl rfl rfl ?_
              refine q_goto rfl ?_
              refine q_iload rfl rfl rfl ?_
              refine q_bipush rfl rfl ?_
              refine q_icge rfl rfl (fun c820 => absurd c820 (by decide)) (fun c820 => ?_)
              refine q_aload_n rfl rfl rfl ?_
              refine q_getf rfl rfl (by decide) rfl rfl ?_
              refine q_bipush rfl rfl ?_
              refine q_iload rfl rfl rfl ?_
              refine q_imul rfl rfl (q_tn (z := 40000) rfl ?_)
              refine q_iload rfl rfl rfl ?_
              refine q_iadd rfl rfl (q_tn (z := 40005) rfl ?_)
              refine q_aload_n rfl rfl rfl ?_
              refine q_getf rfl rfl (by decide) rfl rfl ?_
              refine q_iload rfl rfl rfl ?_
              refine q_iald rfl rfl (by decide) rfl (by decide) (q_tn (z := 0) rfl ?_)
              refine q_iast rfl rfl (by decide) rfl (by decide) ?_
              refine q_icc6 (z := 6) rfl rfl rfl rfl rfl ?_
              refine q_goto rfl ?_
              refine q_iload rfl rfl rfl ?_
              refine q_bipush rfl rfl ?_
              refine q_icge rfl rfl (fun c821 => absurd c821 (by decide)) (fun c821 => ?_)
              refine q_aload_n rfl rfl rfl ?_
              refine q_getf rfl rfl (by decide) rfl rfl ?_
              refine q_bipush rfl rfl ?_
              refine q_iload rfl rfl rfl ?_
              refine q_imul rfl rfl (q_tn (z := 40000) rfl ?_)
              refine q_iload rfl rfl rfl ?_
              refine q_iadd rfl rfl (q_tn (z := 40006) rfl ?_)
              refine q_aload_n rfl rfl rfl ?_
              refine q_getf rfl rfl (by decide) rfl rfl ?_
              refine q_iload rfl rfl rfl ?_
              refine q_iald rfl rfl (by decide) rfl (by decide) (q_tn (z := 0) rfl ?_)
              refine q_iast rfl rfl (by decide) rfl (by decide) ?_
              refine q_icc6 (z := 7) rfl rfl rfl rfl rfl ?_
              refine q_goto rfl ?_
              refine q_iload rfl rfl rfl ?_
              refine q_bipush rfl rfl ?_
              refine q_icge rfl rfl (fun c822 => absurd c822 (by decide)) (fun c822 => ?_)
              refine q_aload_n rfl rfl rfl ?_
              refine q_getf rfl rfl (by decide) rfl rfl ?_
              refine q_bipush rfl rfl ?_
              refine q_iload rfl rfl rfl ?_
              refine q_imul rfl rfl (q_tn (z := 40000) rfl ?_)
              refine q_iload rfl rfl rfl ?_
              refine q_iadd rfl rfl (q_tn (z := 40007) rfl ?_)
              refine q_aload_n rfl rfl rfl ?_
              refine q_getf rfl rfl (by decide) rfl rfl ?_
              refine q_iload rfl rfl rfl ?_
              refine q_iald rfl rfl (by decide) rfl (by decide) (q_tn (z := 0) rfl ?_)
              refine q_iast rfl rfl (by decide) rfl (by decide) ?_
              refine q_icc6 (z := 8) rfl rfl rfl rfl rfl ?_
              refine q_goto rfl ?_
              refine q_iload rfl rfl rfl ?_
              refine q_bipush rfl rfl ?_
              refine q_icge rfl rfl (fun c823 => absurd c823 (by decide)) (fun c823 => ?_)
              refine q_aload_n rfl rfl rfl ?_
              refine q_getf rfl rfl (by decide) rfl rfl ?_
              refine q_bipush rfl rfl ?_
              refine q_iload rfl rfl rfl ?_
              refine q_imul rfl rfl (q_tn (z := 40000) rfl ?_)
              refine q_iload rfl rfl rfl ?_
              refine q_iadd rfl rfl (q_tn (z := 40008) rfl ?_)
              refine q_aload_n rfl rfl rfl ?_
              refine q_getf rfl rfl (by decide) rfl rfl ?_
              refine q_iload rfl rfl rfl ?_
              refine q_iald rfl rfl (by decide) rfl (by decide) (q_tn (z := 0) rfl ?_)
              refine q_iast rfl rfl (by decide) rfl (by decide) ?_
              refine q_icc6 (z := 9) rfl rfl rfl rfl rfl ?_
              refine q_goto rfl ?_
              refine q_iload rfl rfl rfl ?_
              refine q_bipush rfl rfl ?_
              refine q_icge rfl rfl (fun c824 => absurd c824 (by decide)) (fun c824 => ?_)
              refine q_aload_n rfl rfl rfl ?_
              refine q_getf rfl rfl (by decide) rfl rfl ?_
              refine q_bipush rfl rfl ?_
              refine q_iload rfl rfl rfl ?_
              refine q_imul rfl rfl (q_tn (z := 40000) rfl ?_)
              refine q_iload rfl rfl rfl ?_
              refine q_iadd rfl rfl (q_tn (z := 40009) rfl ?_)
              refine q_aload_n rfl rfl rfl ?_
              refine q_getf rfl rfl (by decide) rfl rfl ?_
              refine q_iload rfl rfl rfl ?_
              refine q_iald rfl rfl (by decide) rfl (by decide) (q_tn (z := 0) rfl ?_)
              refine q_iast rfl rfl (by decide) rfl (by decide) ?_
              refine q_icc6 (z := 10) rfl rfl rfl rfl rfl ?_
              refine q_goto rfl ?_
              refine q_iload rfl rfl rfl ?_
              refine q_bipush rfl rfl ?_
              refine q_icge rfl rfl (fun c825 => absurd c825 (by decide)) (fun c825 => ?_)
              refine q_aload_n rfl rfl rfl ?_
              refine q_getf rfl rfl (by decide) rfl rfl ?_
              refine q_bipush rfl rfl ?_
              refine q_iload rfl rfl rfl ?_
              refine q_imul rfl rfl (q_tn (z := 40000) rfl ?_)
              refine q_iload rfl rfl rfl ?_
              refine q_iadd rfl rfl (q_tn (z := 40010) rfl ?_)
              refine q_aload_n rfl rfl rfl ?_
              refine q_getf rfl rfl (by decide) rfl rfl ?_
              refine q_iload rfl rfl rfl ?_
              refine q_iald rfl rfl (by decide) rfl (by decide) (q_tn (z := 0) rfl ?_)
              refine q_iast rfl rfl (by decide) rfl (by decide) ?_
              refine q_icc6 (z := 11) rfl rfl rfl rfl rfl ?_
              refine q_goto rfl ?_
              refine q_iload rfl rfl rfl ?_
              refine q_bipush rfl rfl ?_
              refine q_icge rfl rfl (fun c826 => absurd c826 (by decide)) (fun c826 => ?_)
              refine q_aload_n rfl rfl rfl ?_
              refine q_getf rfl rfl (by decide) rfl rfl ?_
              refine q_bipush rfl rfl ?_
              refine q_iload rfl rfl rfl ?_
              refine q_imul rfl rfl (q_tn (z := 40000) rfl ?_)
              refine q_iload rfl rfl rfl ?_
              refine q_iadd rfl rfl (q_tn (z := 40011) rfl ?_)
              refine q_aload_n rfl rfl rfl ?_
              refine q_getf rfl rfl (by decide) rfl rfl ?_
              refine q_iload rfl rfl rfl ?_
              refine q_iald rfl rfl (by decide) rfl (by decide) (q_tn (z := 0) rfl ?_)
              refine q_iast rfl rfl (by decide) rfl (by decide) ?_
              refine q_icc6 (z := 12) rfl rfl rfl rfl rfl ?_
              refine q_goto rfl ?_
              refine q_iload rfl rfl rfl ?_
              refine q_bipush rfl rfl ?_
              refine q_icge rfl rfl (fun c827 => absurd c827 (by decide)) (fun c827 => ?_)
              refine q_aload_n rfl rfl rfl ?_
              refine q_getf rfl rfl (by decide) rfl rfl ?_
              refine q_bipush rfl rfl ?_
              refine q_iload rfl rfl rfl ?_
              refine q_imul rfl rfl (q_tn (z := 40000) rfl ?_)
              refine q_iload rfl rfl rfl ?_
              refine q_iadd rfl rfl (q_tn (z := 40012) rfl ?_)
              refine q_aload_n rfl rfl rfl ?_
              refine q_getf rfl rfl (by decide) rfl rfl ?_
              refine q_iload rfl rfl rfl ?_
              refine q_iald rfl rfl (by decide) rfl (by decide) (q_tn (z := 0) rfl ?_)
              refine q_iast rfl rfl (by decide) rfl (by decide) ?_
              refine q_icc6 (z := 13) rfl rfl rfl rfl rfl ?_
              refine q_goto rfl ?_
              refine q_iload rfl rfl rfl ?_
              refine q_bipush rfl rfl ?_
              refine q_icge rfl rfl (fun c828 => absurd c828 (by decide)) (fun c828 => ?_)
              refine q_aload_n rfl rfl rfl ?_
              refine q_getf rfl rfl (by decide) rfl rfl ?_
              refine q_bipush rfl rfl ?_
              refine q_iload rfl rfl rfl ?_
              refine q_imul rfl rfl (q_tn (z := 40000) rfl ?_)
              refine q_iload rfl rfl rfl ?_
              refine q_iadd rfl rfl (q_tn (z := 40013) rfl ?_)
              refine q_aload_n rfl rfl rfl ?_
              refine q_getf rfl rfl (by decide) rfl rfl ?_
              refine q_iload rfl rfl rfl ?_
              refine q_iald rfl rfl (by decide) rfl (by decide) (q_tn (z := 0) rfl ?_)
              refine q_iast rfl rfl (by decide) rfl (by decide) ?_
              refine q_icc6 (z := 14) rfl rfl rfl rfl rfl ?_
              refine q_goto rfl ?_
              refine q_iload rfl rfl rfl ?_
              refine q_bipush rfl rfl ?_
              refine q_icge rfl rfl (fun c829 => absurd c829 (by decide)) (fun c829 => ?_)
              refine q_aload_n rfl rfl rfl ?_
              refine q_getf rfl rfl (by decide) rfl rfl ?_
              refine q_bipush rfl rfl ?_
              refine q_iload rfl rfl rfl ?_
              refine q_imul rfl rfl (q_tn (z := 40000) rfl ?_)
              refine q_iload rfl rfl rfl ?_
              refine q_iadd rfl rfl (q_tn (z := 40014) rfl ?_)
              refine q_aload_n rfl rfl rfl ?_
              refine q_getf rfl rfl (by decide) rfl rfl ?_
              refine q_iload rfl rfl rfl ?_
              refine q_iald rfl rfl (by decide) rfl (by decide) (q_tn (z := 0) rfl ?_)
              refine q_iast rfl rfl (by decide) rfl (by decide) ?_
              refine q_icc6 (z := 15) rfl rfl rfl rfl rfl ?_
              refine q_goto rfl ?_
              refine q_iload rfl rfl rfl ?_
              refine q_bipush rfl rfl ?_
              refine q_icge rfl rfl (fun c830 => absurd c830 (by decide)) (fun c830 => ?_)
              refine q_aload_n rfl rfl rfl ?_
              refine q_getf rfl rfl (by decide) rfl rfl ?_
              refine q_bipush rfl rfl ?_
              refine q_iload rfl rfl rfl ?_
              refine q_imul rfl rfl (q_tn (z := 40000) rfl ?_)
              refine q_iload rfl rfl rfl ?_
              refine q_iadd rfl rfl (q_tn (z := 40015) rfl ?_)
              refine q_aload_n rfl rfl rfl ?_
              refine q_getf rfl rfl (by decide) rfl rfl ?_
              refine q_iload rfl rfl rfl ?_
              refine q_iald rfl rfl (by decide) rfl (by decide) (q_tn (z := 0) rfl ?_)
              refine q_iast rfl rfl (by decide) rfl (by decide) ?_
              refine q_icc6 (z := 16) rfl rfl rfl rfl rfl ?_
              refine q_goto rfl ?_
              refine q_iload rfl rfl rfl ?_
              refine q_bipush rfl rfl ?_
              refine q_icge rfl rfl (fun c831 => absurd c831 (by decide)) (fun c831 => ?_)
              refine q_aload_n rfl rfl rfl ?_
              refine q_getf rfl rfl (by decide) rfl rfl ?_
              refine q_bipush rfl rfl ?_
              refine q_iload rfl rfl rfl ?_
              refine q_imul rfl rfl (q_tn (z := 40000) rfl ?_)
              refine q_iload rfl rfl rfl ?_
              refine q_iadd rfl rfl (q_tn (z := 40016) rfl ?_)
              refine q_aload_n rfl rfl rfl ?_
              refine q_getf rfl rfl (by decide) rfl rfl ?_
              refine q_iload rfl rfl rfl ?_
              refine q_iald rfl rfl (by decide) rfl (by decide) (q_tn (z := 0) rfl ?_)
              refine q_iast rfl rfl (by decide) rfl (by decide) ?_
              refine q_icc6 (z := 17) rfl rfl rfl rfl rfl ?_
              refine q_goto rfl ?_
              refine q_iload rfl rfl rfl ?_
              refine q_bipush rfl rfl ?_
              refine q_icge rfl rfl (fun c832 => absurd c832 (by decide)) (fun c832 => ?_)
              refine q_aload_n rfl rfl rfl ?_
              refine q_getf rfl rfl (by decide) rfl rfl ?_
              refine q_bipush rfl rfl ?_
              refine q_iload rfl rfl rfl ?_
              refine q_imul rfl rfl (q_tn (z := 40000) rfl ?_)
              refine q_iload rfl rfl rfl ?_
              refine q_iadd rfl rfl (q_tn (z := 40017) rfl ?_)
              refine q_aload_n rfl rfl rfl ?_
              refine q_getf rfl rfl (by decide) rfl rfl ?_
              refine q_iload rfl rfl rfl ?_
              refine q_iald rfl rfl (by decide) rfl (by decide) (q_tn (z := 0) rfl ?_)
              refine q_iast rfl rfl (by decide) rfl (by decide) ?_
              refine q_icc6 (z := 18) rfl rfl rfl rfl rfl ?_
              refine q_goto rfl ?_
              refine q_iload rfl rfl rfl ?_
              refine q_bipush rfl rfl ?_
              refine q_icge rfl rfl (fun c833 => absurd c833 (by decide)) (fun c833 => ?_)
              refine q_aload_n rfl rfl rfl ?_
              refine q_getf rfl rfl (by decide) rfl rfl ?_
              refine q_bipush rfl rfl ?_
              refine q_iload rfl rfl rfl ?_
              refine q_imul rfl rfl (q_tn (z := 40000) rfl ?_)
              refine q_iload rfl rfl rfl ?_
              refine q_iadd rfl rfl (q_tn (z := 40018) rfl ?_)
              refine q_aload_n rfl rfl rfl ?_
              refine q_getf rfl rfl (by decide) rfl rfl ?_
              refine q_iload rfl rfl rfl ?_
              refine q_iald rfl rfl (by decide) rfl (by decide) (q_tn (z := 0) rfl ?_)
              refine q_iast rfl rfl (by decide) rfl (by decide) ?_
              refine q_icc6 (z := 19) rfl rfl rfl rfl rfl ?_
              refine q_goto rfl ?_
              refine q_iload rfl rfl rfl ?_
              refine q_bipush rfl rfl ?_
              refine q_icge rfl rfl (fun c834 => absurd c834 (by decide)) (fun c834 => ?_)
              refine q_aload_n rfl rfl rfl ?_
              refine q_getf rfl rfl (by decide) rfl rfl ?_
              refine q_bipush rfl rfl ?_
              refine q_iload rfl rfl rfl ?_
              refine q_imul rfl rfl (q_tn (z := 40000) rfl ?_)
              refine q_iload rfl rfl rfl ?_
              refine q_iadd rfl rfl (q_tn (z := 40019) rfl ?_)
              refine q_aload_n rfl rfl rfl ?_
              refine q_getf rfl rfl (by decide) rfl rfl ?_
              refine q_iload rfl rfl rfl ?_
              refine q_iald rfl rfl (by decide) rfl (by decide) (q_tn (z := 0) rfl ?_)
              refine q_iast rfl rfl (by decide) rfl (by decide) ?_
              refine q_icc6 (z := 20) rfl rfl rfl rfl rfl ?_
              refine q_goto rfl ?_
              refine q_iload rfl rfl rfl ?_
              refine q_bipush rfl rfl ?_
              refine q_icge rfl rfl (fun c835 => ?_) (fun c835 => absurd (by decide) c835)
              refine q_aload_n rfl rfl rfl ?_
              refine q_getf rfl rfl (by decide) rfl rfl ?_
              refine q_iload rfl rfl rfl ?_
              refine q_iload_n rfl rfl rfl ?_
              refine q_iast rfl rfl (by decide) (FW_56 S hW) (by decide) ?_
              refine q_aload_n rfl rfl rfl ?_
              refine q_getf rfl rfl (by decide) rfl rfl ?_
              refine q_iload rfl rfl rfl ?_
              refine q_iload_n rfl rfl rfl ?_
              refine q_iast rfl rfl (by decide) (FW_57 S hW) (by decide) ?_
              refine q_aload_n rfl rfl rfl ?_
              refine q_iload_n rfl rfl rfl ?_
              refine q_nV1 rfl rfl (Or.inl rfl) rfl rfl rfl (by decide) rfl ⟨rfl, rfl⟩ rfl ?_
              change PQ _ _ _ mm_X12_rest 0 [.ref 46, .int 1, pm_un, pm_un] [] _ _ 0 0 _
              refine q_bipush rfl rfl ?_
              refine q_ist2n rfl rfl rfl rfl ?_
              refine q_iconst rfl rfl ?_
              refine q_ist3n rfl rfl rfl rfl ?_
              refine q_iload_n rfl rfl rfl ?_
              refine q_bipush rfl rfl ?_
              refine q_icge rfl rfl (fun c836 => absurd c836 (by decide)) (fun c836 => ?_)
              refine q_bipush rfl rfl ?_
              refine q_iload_n rfl rfl rfl ?_
              refine q_imul rfl rfl (q_tn (z := 527) rfl ?_)
              refine q_aload_n rfl rfl rfl ?_
              refine q_getf rfl rfl (by decide) rfl rfl ?_
              refine q_iload_n rfl rfl rfl ?_
              refine q_iald rfl rfl (by decide) rfl (by decide) (q_tn (z := 10) rfl ?_)
              refine q_iadd rfl rfl (q_tn (z := 537) rfl ?_)
              refine q_ist2n rfl rfl rfl rfl ?_
              refine q_icc3 (z := 1) rfl rfl rfl rfl rfl ?_
              refine q_goto rfl ?_
              refine q_iload_n rfl rfl rfl ?_
              refine q_bipush rfl rfl ?_
              refine q_icge rfl rfl (fun c837 => absurd c837 (by decide)) (fun c837 => ?_)
              refine q_bipush rfl rfl ?_
              refine q_iload_n rfl rfl rfl ?_
              refine q_imul rfl rfl (q_tn (z := 16647) rfl ?_)
              refine q_aload_n rfl rfl rfl ?_
              refine q_getf rfl rfl (by decide) rfl rfl ?_
              refine q_iload_n rfl rfl rfl ?_
              refine q_iald rfl rfl (by decide) rfl (by decide) (q_tn (z := 0) rfl ?_)
              refine q_iadd rfl rfl (q_tn (z := 16647) rfl ?_)
              refine q_ist2n rfl rfl rfl rfl ?_
              refine q_icc3 (z := 2) rfl rfl rfl rfl rfl ?_
              refine q_goto rfl ?_
              refine q_iload_n rfl rfl rfl ?_
              refine q_bipush rfl rfl ?_
              refine q_icge rfl rfl (fun c838 => absurd c838 (by decide)) (fun c838 => ?_)
              refine q_bipush rfl rfl ?_
              refine q_iload_n rfl rfl rfl ?_
              refine q_imul rfl rfl (q_tn (z := 516057) rfl ?_)
              refine q_aload_n rfl rfl rfl ?_
              refine q_getf rfl rfl (by decide) rfl rfl ?_
              refine q_iload_n rfl rfl rfl ?_
              refine q_iald rfl rfl (by decide) rfl (by decide) (q_tn (z := 0) rfl ?_)
              refine q_iadd rfl rfl (q_tn (z := 516057) rfl ?_)
              refine q_ist2n rfl rfl rfl rfl ?_
              refine q_icc3 (z := 3) rfl rfl rfl rfl rfl ?_
              refine q_goto rfl ?_
              refine q_iload_n rfl rfl rfl ?_
              refine q_bipush rfl rfl ?_
              refine q_icge rfl rfl (fun c839 => absurd c839 (by decide)) (fun c839 => ?_)
              refine q_bipush rfl rfl ?_
              refine q_iload_n rfl rfl rfl ?_
              refine q_imul rfl rfl (q_tn (z := 15997767) rfl ?_)
              refine q_aload_n rfl rfl rfl ?_
              refine q_getf rfl rfl (by decide) rfl rfl ?_
              refine q_iload_n rfl rfl rfl ?_
              refine q_iald rfl rfl (by decide) rfl (by decide) (q_tn (z := 0) rfl ?_)
              refine q_iadd rfl rfl (q_tn (z := 15997767) rfl ?_)
              refine q_ist2n rfl rfl rfl rfl ?_
              refine q_icc3 (z := 4) rfl rfl rfl rfl rfl ?_
              refine q_goto rfl ?_
              refine q_iload_n rfl rfl rfl ?_
              refine q_bipush rfl rfl ?_
              refine q_icge rfl rfl (fun c840 => absurd c840 (by decide)) (fun c840 => ?_)
              refine q_bipush rfl rfl ?_
              refine q_iload_n rfl rfl rfl ?_
              refine q_imul rfl rfl (q_tn (z := 495930777) rfl ?_)
              refine q_aload_n rfl rfl rfl ?_
              refine q_getf rfl rfl (by decide) rfl rfl ?_
              refine q_iload_n rfl rfl rfl ?_
              refine q_iald rfl rfl (by decide) rfl (by decide) (q_tn (z := 0) rfl ?_)
              refine q_iadd rfl rfl (q_tn (z := 495930777) rfl ?_)
              refine q_ist2n rfl rfl rfl rfl ?_
              refine q_icc3 (z := 5) rfl rfl rfl rfl rfl ?_
              refine q_goto rfl ?_
              refine q_iload_n rfl rfl rfl ?_
              refine q_bipush rfl rfl ?_
              refine q_icge rfl rfl (fun c841 => absurd c841 (by decide)) (fun c841 => ?_)
              refine q_bipush rfl rfl ?_
              refine q_iload_n rfl rfl rfl ?_
              refine q_imul rfl rfl (q_tn (z := (-1806015097)) rfl ?_)
              refine q_aload_n rfl rfl rfl ?_
              refine q_getf rfl rfl (by decide) rfl rfl ?_
              refine q_iload_n rfl rfl rfl ?_
              refine q_iald rfl rfl (by decide) rfl (by decide) (q_tn (z := 0) rfl ?_)
              refine q_iadd rfl rfl (q_tn (z := (-1806015097)) rfl ?_)
              refine q_ist2n rfl rfl rfl rfl ?_
              refine q_icc3 (z := 6) rfl rfl rfl rfl rfl ?_
              refine q_goto rfl ?_
              refine q_iload_n rfl rfl rfl ?_
              refine q_bipush rfl rfl ?_
              refine q_icge rfl rfl (fun c842 => absurd c842 (by decide)) (fun c842 => ?_)
              refine q_bipush rfl rfl ?_
              refine q_iload_n rfl rfl rfl ?_
              refine q_imul rfl rfl (q_tn (z := (-151893159)) rfl ?_)
              refine q_aload_n rfl rfl rfl ?_
              refine q_getf rfl rfl (by decide) rfl rfl ?_
              refine q_iload_n rfl rfl rfl ?_
              refine q_iald rfl rfl (by decide) rfl (by decide) (q_tn (z := 0) rfl ?_)
              refine q_iadd rfl rfl (q_tn (z := (-151893159)) rfl ?_)
              refine q_ist2n rfl rfl rfl rfl ?_
              refine q_icc3 (z := 7) rfl rfl rfl rfl rfl ?_
              refine q_goto rfl ?_
              refine q_iload_n rfl rfl rfl ?_
              refine q_bipush rfl rfl ?_
              refine q_icge rfl rfl (fun c843 => absurd c843 (by decide)) (fun c843 => ?_)
              refine q_bipush rfl rfl ?_
              refine q_iload_n rfl rfl rfl ?_
              refine q_imul rfl rfl (q_tn (z := (-413720633)) rfl ?_)
              refine q_aload_n rfl rfl rfl ?_
              refine q_getf rfl rfl (by decide) rfl rfl ?_
              refine q_iload_n rfl rfl rfl ?_
              refine q_iald rfl rfl (by decide) rfl (by decide) (q_tn (z := 0) rfl ?_)
              refine q_iadd rfl rfl (q_tn (z := (-413720633)) rfl ?_)
              refine q_ist2n rfl rfl rfl rfl ?_
              refine q_icc3 (z := 8) rfl rfl rfl rfl rfl ?_
              refine q_goto rfl ?_
              refine q_iload_n rfl rfl rfl ?_
              refine q_bipush rfl rfl ?_
              refine q_icge rfl rfl (fun c844 => absurd c844 (by decide)) (fun c844 => ?_)
              refine q_bipush rfl rfl ?_
              refine q_iload_n rfl rfl rfl ?_
              refine q_imul rfl rfl (q_tn (z := 59562265) rfl ?_)
              refine q_aload_n rfl rfl rfl ?_
              refine q_getf rfl rfl (by decide) rfl rfl ?_
              refine q_iload_n rfl rfl rfl ?_
              refine q_iald rfl rfl (by decide) rfl (by decide) (q_tn (z := 0) rfl ?_)
              refine q_iadd rfl rfl (q_tn (z := 59562265) rfl ?_)
              refine q_ist2n rfl rfl rfl rfl ?_
              refine q_icc3 (z := 9) rfl rfl rfl rfl rfl ?_
              refine q_goto rfl ?_
              refine q_iload_n rfl rfl rfl ?_
              refine q_bipush rfl rfl ?_
              refine q_icge rfl rfl (fun c845 => absurd c845 (by decide)) (fun c845 => ?_)
              refine q_bipush rfl rfl ?_
              refine q_iload_n rfl rfl rfl ?_
              refine q_imul rfl rfl (q_tn (z := 1846430215) rfl ?_)
              refine q_aload_n rfl rfl rfl ?_
              refine q_getf rfl rfl (by decide) rfl rfl ?_
              refine q_iload_n rfl rfl rfl ?_
              refine q_iald rfl rfl (by decide) rfl (by decide) (q_tn (z := 0) rfl ?_)
              refine q_iadd rfl rfl (q_tn (z := 1846430215) rfl ?_)
              refine q_ist2n rfl rfl rfl rfl ?_
              refine q_icc3 (z := 10) rfl rfl rfl rfl rfl ?_
              refine q_goto rfl ?_
              refine q_iload_n rfl rfl rfl ?_
              refine q_bipush rfl rfl ?_
              refine q_icge rfl rfl (fun c846 => absurd c846 (by decide)) (fun c846 => ?_)
              refine q_bipush rfl rfl ?_
              refine q_iload_n rfl rfl rfl ?_
              refine q_imul rfl rfl (q_tn (z := 1404761817) rfl ?_)
              refine q_aload_n rfl rfl rfl ?_
              refine q_getf rfl rfl (by decide) rfl rfl ?_
              refine q_iload_n rfl rfl rfl ?_
              refine q_iald rfl rfl (by decide) rfl (by decide) (q_tn (z := 0) rfl ?_)
              refine q_iadd rfl rfl (q_tn (z := 1404761817) rfl ?_)
              refine q_ist2n rfl rfl rfl rfl ?_
              refine q_icc3 (z := 11) rfl rfl rfl rfl rfl ?_
              refine q_goto rfl ?_
              refine q_iload_n rfl rfl rfl ?_
              refine q_bipush rfl rfl ?_
              refine q_icge rfl rfl (fun c847 => absurd c847 (by decide)) (fun c847 => ?_)
              refine q_bipush rfl rfl ?_
              refine q_iload_n rfl rfl rfl ?_
              refine q_imul rfl rfl (q_tn (z := 597943367) rfl ?_)
              refine q_aload_n rfl rfl rfl ?_
              refine q_getf rfl rfl (by decide) rfl rfl ?_
              refine q_iload_n rfl rfl rfl ?_
              refine q_iald rfl rfl (by decide) rfl (by decide) (q_tn (z := 0) rfl ?_)
              refine q_iadd rfl rfl (q_tn (z := 597943367) rfl ?_)
              refine q_ist2n rfl rfl rfl rfl ?_
              refine q_icc3 (z := 12) rfl rfl rfl rfl rfl ?_
              refine q_goto rfl ?_
              refine q_iload_n rfl rfl rfl ?_
              refine q_bipush rfl rfl ?_
              refine q_icge rfl rfl (fun c848 => absurd c848 (by decide)) (fun c848 => ?_)
              refine q_bipush rfl rfl ?_
              refine q_iload_n rfl rfl rfl ?_
              refine q_imul rfl rfl (q_tn (z := 1356375193) rfl ?_)
              refine q_aload_n rfl rfl rfl ?_
              refine q_getf rfl rfl (by decide) rfl rfl ?_
              as_aux_lemma =>
                refine q_iload_n rfl rfl rfl ?_
                refine q_iald rfl rfl (by decide) rfl (by decide) (q_tn (z := 0) rfl ?_)
                refine q_iadd rfl rfl (q_tn (z := 1356375193) rfl ?_)
                refine q_ist2n rfl rfl rfl rfl ?_
                refine q_icc3 (z := 13) rfl rfl rfl rfl rfl ?_
                refine q_goto rfl ?_
                refine q_iload_n rfl rfl rfl ?_
                refine q_bipush rfl rfl ?_
                refine q_icge rfl rfl (fun c849 => absurd c849 (by decide)) (fun c849 => ?_)
                refine q_bipush rfl rfl ?_
                refine q_iload_n rfl rfl rfl ?_
                refine q_imul rfl rfl (q_tn (z := (-902041977)) rfl ?_)
                refine q_aload_n rfl rfl rfl ?_
                refine q_getf rfl rfl (by decide) rfl rfl ?_
                refine q_iload_n rfl rfl rfl ?_
                refine q_iald rfl rfl (by decide) rfl (by decide) (q_tn (z := 0) rfl ?_)
                refine q_iadd rfl rfl (q_tn (z := (-902041977)) rfl ?_)
                refine q_ist2n rfl rfl rfl rfl ?_
                refine q_icc3 (z := 14) rfl rfl rfl rfl rfl ?_
                refine q_goto rfl ?_
                refine q_iload_n rfl rfl rfl ?_
                refine q_bipush rfl rfl ?_
                refine q_icge rfl rfl (fun c850 => absurd c850 (by decide)) (fun c850 => ?_)
                refine q_bipush rfl rfl ?_
                refine q_iload_n rfl rfl rfl ?_
                refine q_imul rfl rfl (q_tn (z := 2101469785) rfl ?_)
                refine q_aload_n rfl rfl rfl ?_
                refine q_getf rfl rfl (by decide) rfl rfl ?_
                refine q_iload_n rfl rfl rfl ?_
                refine q_iald rfl rfl (by decide) rfl (by decide) (q_tn (z := 0) rfl ?_)
                refine q_iadd rfl rfl (q_tn (z := 2101469785) rfl ?_)
                refine q_ist2n rfl rfl rfl rfl ?_
                refine q_icc3 (z := 15) rfl rfl rfl rfl rfl ?_
                refine q_goto rfl ?_
                refine q_iload_n rfl rfl rfl ?_
                refine q_bipush rfl rfl ?_
                refine q_icge rfl rfl (fun c851 => absurd c851 (by decide)) (fun c851 => ?_)
                refine q_bipush rfl rfl ?_
                refine q_iload_n rfl rfl rfl ?_
                refine q_imul rfl rfl (q_tn (z := 721053895) rfl ?_)
                refine q_aload_n rfl rfl rfl ?_
                refine q_getf rfl rfl (by decide) rfl rfl ?_
                refine q_iload_n rfl rfl rfl ?_
                refine q_iald rfl rfl (by decide) rfl (by decide) (q_tn (z := 0) rfl ?_)
                refine q_iadd rfl rfl (q_tn (z := 721053895) rfl ?_)
                refine q_ist2n rfl rfl rfl rfl ?_
                refine q_icc3 (z := 16) rfl rfl rfl rfl rfl ?_
                refine q_goto rfl ?_
                refine q_iload_n rfl rfl rfl ?_
                refine q_bipush rfl rfl ?_
                refine q_icge rfl rfl (fun c852 => absurd c852 (by decide)) (fun c852 => ?_)
                refine q_bipush rfl rfl ?_
                refine q_iload_n rfl rfl rfl ?_
                refine q_imul rfl rfl (q_tn (z := 877834265) rfl ?_)
                refine q_aload_n rfl rfl rfl ?_
                refine q_getf rfl rfl (by decide) rfl rfl ?_
                refine q_iload_n rfl rfl rfl ?_
                refine q_iald rfl rfl (by decide) rfl (by decide) (q_tn (z := 0) rfl ?_)
                refine q_iadd rfl rfl (q_tn (z := 877834265) rfl ?_)
                refine q_ist2n rfl rfl rfl rfl ?_
                refine q_icc3 (z := 17) rfl rfl rfl rfl rfl ?_
                refine q_goto rfl ?_
                refine q_iload_n rfl rfl rfl ?_
                refine q_bipush rfl rfl ?_
                refine q_icge rfl rfl (fun c853 => absurd c853 (by decide)) (fun c853 => ?_)
                refine q_bipush rfl rfl ?_
                refine q_iload_n rfl rfl rfl ?_
                refine q_imul rfl rfl (q_tn (z := 1443058439) rfl ?_)
                refine q_aload_n rfl rfl rfl ?_
                refine q_getf rfl rfl (by decide) rfl rfl ?_
                refine q_iload_n rfl rfl rfl ?_
                refine q_iald rfl rfl (by decide) rfl (by decide) (q_tn (z := 0) rfl ?_)
                refine q_iadd rfl rfl (q_tn (z := 1443058439) rfl ?_)
                refine q_ist2n rfl rfl rfl rfl ?_
                refine q_icc3 (z := 18) rfl rfl rfl rfl rfl ?_
                refine q_goto rfl ?_
                refine q_iload_n rfl rfl rfl ?_
                refine q_bipush rfl rfl ?_
                refine q_icge rfl rfl (fun c854 => absurd c854 (by decide)) (fun c854 => ?_)
                refine q_bipush rfl rfl ?_
                refine q_iload_n rfl rfl rfl ?_
                refine q_imul rfl rfl (q_tn (z := 1785138649) rfl ?_)
                refine q_aload_n rfl rfl rfl ?_
                refine q_getf rfl rfl (by decide) rfl rfl ?_
                refine q_iload_n rfl rfl rfl ?_
                refine q_iald rfl rfl (by decide) rfl (by decide) (q_tn (z := 0) rfl ?_)
                refine q_iadd rfl rfl (q_tn (z := 1785138649) rfl ?_)
                refine q_ist2n rfl rfl rfl rfl ?_
                refine q_icc3 (z := 19) rfl rfl rfl rfl rfl ?_
                refine q_goto rfl ?_
                refine q_iload_n rfl rfl rfl ?_
                refine q_bipush rfl rfl ?_
                refine q_icge rfl rfl (fun c855 => absurd c855 (by decide)) (fun c855 => ?_)
                refine q_bipush rfl rfl ?_
                refine q_iload_n rfl rfl rfl ?_
                refine q_imul rfl rfl (q_tn (z := (-495276729)) rfl ?_)
                refine q_aload_n rfl rfl rfl ?_
                refine q_getf rfl rfl (by decide) rfl rfl ?_
                refine q_iload_n rfl rfl rfl ?_
                refine q_iald rfl rfl (by decide) rfl (by decide) (q_tn (z := 0) rfl ?_)
                refine q_iadd rfl rfl (q_tn (z := (-495276729)) rfl ?_)
                refine q_ist2n rfl rfl rfl rfl ?_
                refine q_icc3 (z := 20) rfl rfl rfl rfl rfl ?_
                refine q_goto rfl ?_
                refine q_iload_n rfl rfl rfl ?_
                refine q_bipush rfl rfl ?_
                refine q_icge rfl rfl (fun c856 => ?_) (fun c856 => absurd (by decide) c856)
                refine q_sipush rfl rfl ?_
                refine q_iload_n rfl rfl rfl ?_
                refine q_imul rfl rfl (q_tn (z := 8192) rfl ?_)
                refine q_iload_n rfl rfl rfl ?_
                refine q_iload_n rfl rfl rfl ?_
                refine q_bipush rfl rfl ?_
                refine q_iushr rfl rfl (q_tn (z := 463829) rfl ?_)
                refine q_ixor rfl rfl (q_tn (z := (-495075694)) rfl ?_)
                refine q_sipush rfl rfl ?_
                refine q_irem rfl rfl (by decide) (q_tn (z := (-366)) rfl ?_)
                refine q_iload_n rfl rfl rfl ?_
                refine q_iload_n rfl rfl rfl ?_
                refine q_bipush rfl rfl ?_
                refine q_iushr rfl rfl (q_tn (z := 463829) rfl ?_)
                refine q_ixor rfl rfl (q_tn (z := (-495075694)) rfl ?_)
                refine q_sipush rfl rfl ?_
                refine q_irem rfl rfl (by decide) (q_tn (z := (-366)) rfl ?_)
                refine q_ifge rfl rfl (fun c857 => absurd c857 (by decide)) (fun c857 => ?_)
                refine q_iconst rfl rfl ?_
                refine q_goto rfl ?_
                refine q_imul rfl rfl (q_tn (z := 366) rfl ?_)
                refine q_iadd rfl rfl (q_tn (z := 8558) rfl ?_)
                refine q_iret rfl rfl trivial ?_
                refine ⟨_, rfl, ?_⟩
                refine q_ist6 rfl rfl rfl rfl ?_
                refine q_aload_n rfl rfl rfl ?_
                refine q_getf rfl rfl (by decide) rfl rfl ?_
                refine q_iload rfl rfl rfl ?_
                refine q_aload_n rfl rfl rfl ?_
                refine q_getf rfl rfl (by decide) rfl rfl ?_
                refine q_iload rfl rfl rfl ?_
                refine q_iald rfl rfl (by decide) rfl (by decide) (q_tn (z := (-1)) rfl ?_)
                refine q_iast rfl rfl (by decide) (FW_58 S hW) (by decide) ?_
                refine q_aload_n rfl rfl rfl ?_
                refine q_getf rfl rfl (by decide) rfl rfl ?_
                refine q_iload rfl rfl rfl ?_
                refine q_iload rfl rfl rfl ?_
                refine q_iast rfl rfl (by decide) rfl (by decide) ?_
                refine q_aload_n rfl rfl rfl ?_
                refine q_getf rfl rfl (by decide) rfl rfl ?_
                refine q_iload_n rfl rfl rfl ?_
                refine q_dup2 rfl rfl ?_
                refine q_iald rfl rfl (by decide) rfl (by decide) (q_tn (z := 0) rfl ?_)
                refine q_iconst rfl rfl ?_
                refine q_iadd rfl rfl (q_tn (z := 1) rfl ?_)
                refine q_iast rfl rfl (by decide) rfl (by decide) ?_
                refine q_iload rfl rfl rfl ?_
                refine q_iret rfl rfl trivial ?_
                refine ⟨_, rfl, ?_⟩
                refine q_ist3n rfl rfl rfl rfl ?_
                refine q_iconst rfl rfl ?_
                refine q_ist4 rfl rfl rfl rfl ?_
                refine q_iload rfl rfl rfl ?_
                refine q_aload_n rfl rfl rfl ?_
                refine q_getf rfl rfl (by decide) rfl rfl ?_
                refine q_iload_n rfl rfl rfl ?_
                refine q_iald rfl rfl (by decide) rfl (by decide) (q_tn (z := 1) rfl ?_)
                refine q_icge rfl rfl (fun c858 => absurd c858 (by decide)) (fun c858 => ?_)
                refine q_iconst rfl rfl ?_
                refine q_ist5 rfl rfl rfl rfl ?_
                refine q_iload rfl rfl rfl ?_
                refine q_iconst rfl rfl ?_
                refine q_icge rfl rfl (fun c859 => absurd c859 (by decide)) (fun c859 => ?_)
                refine q_iconst rfl rfl ?_
                refine q_sipush rfl rfl ?_
                refine q_iload_n rfl rfl rfl ?_
                refine q_imul rfl rfl (q_tn (z := 2000) rfl ?_)
                refine q_iload rfl rfl rfl ?_
                refine q_iadd rfl rfl (q_tn (z := 2000) rfl ?_)
                refine q_imul rfl rfl (q_tn (z := 6000) rfl ?_)
                refine q_iload rfl rfl rfl ?_
                refine q_iadd rfl rfl (q_tn (z := 6000) rfl ?_)
                refine q_ist6 rfl rfl rfl rfl ?_
                refine q_aload_n rfl rfl rfl ?_
                refine q_getf rfl rfl (by decide) rfl rfl ?_
                refine q_iload rfl rfl rfl ?_
                refine q_iconst rfl rfl ?_
                refine q_iast rfl rfl (by decide) (FW_59 S hW) (by decide) ?_
                refine q_aload_n rfl rfl rfl ?_
                refine q_iload_n rfl rfl rfl ?_
                refine q_iload rfl rfl rfl ?_
                refine q_cV2v rfl rfl (Or.inl rfl) rfl rfl rfl (by decide) rfl ⟨rfl, rfl⟩ rfl (fun K' hK' => l_sa (R := 1) (by decide) rfl (by decide) rfl rfl rfl rfl rfl hK') ?_
                refine q_iload rfl rfl rfl ?_
                refine q_aload_n rfl rfl rfl ?_
                refine q_getf rfl rfl (by decide) rfl rfl ?_
                refine q_icge rfl rfl (fun c860 => absurd c860 (by decide)) (fun c860 => ?_)
                refine q_aload_n rfl rfl rfl ?_
                refine q_iload rfl rfl rfl ?_
                refine q_iload_n rfl rfl rfl ?_
                refine q_nV2 rfl rfl (Or.inl rfl) rfl rfl rfl (by decide) rfl ⟨rfl, rfl⟩ rfl ?_
                change PQ _ _ _ mm_X12_maySteps 0 [.ref 46, .int 0, .int 4, pm_un, pm_un, pm_un] [] _ _ 0 0 _
                refine q_aload_n rfl rfl rfl ?_
                refine q_iload_n rfl rfl rfl ?_
                refine q_iload_n rfl rfl rfl ?_
                refine q_nV2 rfl rfl (Or.inl rfl) rfl rfl rfl (by decide) rfl ⟨rfl, rfl⟩ rfl ?_
                change PQ _ _ _ mm_X12_canStep 0 [.ref 46, .int 0, .int 4, pm_un] [] _ _ 0 0 _
                refine q_aload_n rfl rfl rfl ?_
                refine q_iload_n rfl rfl rfl ?_
                refine q_nV1 rfl rfl (Or.inl rfl) rfl rfl rfl (by decide) rfl ⟨rfl, rfl⟩ rfl ?_
                change PQ _ _ _ mm_X12_isOver 0 [.ref 46, .int 0] [] _ _ 0 0 _
                refine q_aload_n rfl rfl rfl ?_
                refine q_getf rfl rfl (by decide) rfl rfl ?_
                refine q_iconst rfl rfl ?_
                refine q_iload_n rfl rfl rfl ?_
                refine q_imul rfl rfl (q_tn (z := 0) rfl ?_)
                refine q_iald rfl rfl (by decide) rfl (by decide) (q_tn (z := 10) rfl ?_)
                refine q_bipush rfl rfl ?_
                refine q_iclt rfl rfl (fun c861 => absurd c861 (by decide)) (fun c861 => ?_)
                refine q_iconst rfl rfl ?_
                refine q_goto rfl ?_
                refine q_iret rfl rfl rfl ?_
                refine ⟨_, rfl, ?_⟩
                refine q_ifeq rfl rfl (fun c862 => absurd c862 (by decide)) (fun c862 => ?_)
                refine q_iconst rfl rfl ?_
                refine q_iret rfl rfl rfl ?_
                refine ⟨_, rfl, ?_⟩
                refine q_ifne rfl rfl (fun c863 => ?_) (fun c863 => absurd (by decide) c863)
                refine q_iconst rfl rfl ?_
                refine q_iret rfl rfl rfl ?_
                refine ⟨_, rfl, ?_⟩
                refine q_ifne rfl rfl (fun c864 => ?_) (fun c864 => absurd (by decide) c864)
                refine q_goto rfl ?_
                refine q_icc5 (z := 1) rfl rfl rfl rfl rfl ?_
                refine q_goto rfl ?_
                refine q_iload rfl rfl rfl ?_
                refine q_iconst rfl rfl ?_
                refine q_icge rfl rfl (fun c865 => absurd c865 (by decide)) (fun c865 => ?_)
                refine q_iconst rfl rfl ?_
                refine q_sipush rfl rfl ?_
                refine q_iload_n rfl rfl rfl ?_
                refine q_imul rfl rfl (q_tn (z := 2000) rfl ?_)
                refine q_iload rfl rfl rfl ?_
                refine q_iadd rfl rfl (q_tn (z := 2000) rfl ?_)
                refine q_imul rfl rfl (q_tn (z := 6000) rfl ?_)
                refine q_iload rfl rfl rfl ?_
                refine q_iadd rfl rfl (q_tn (z := 6001) rfl ?_)
                refine q_ist6 rfl rfl rfl rfl ?_
                refine q_aload_n rfl rfl rfl ?_
                refine q_getf rfl rfl (by decide) rfl rfl ?_
                refine q_iload rfl rfl rfl ?_
                refine q_iconst rfl rfl ?_
                refine q_iast rfl rfl (by decide) rfl (by decide) ?_
                refine q_aload_n rfl rfl rfl ?_
                refine q_iload_n rfl rfl rfl ?_
                refine q_iload rfl rfl rfl ?_
                refine q_cV2v rfl rfl (Or.inl rfl) rfl rfl rfl (by decide) rfl ⟨rfl, rfl⟩ rfl (fun K' hK' => l_sa (R := 1) (by decide) rfl (by decide) rfl rfl rfl rfl rfl hK') ?_
                refine q_iload rfl rfl rfl ?_
                refine q_aload_n rfl rfl rfl ?_
                refine q_getf rfl rfl (by decide) rfl rfl ?_
                refine q_icge rfl rfl (fun c866 => ?_) (fun c866 => absurd (by decide) c866)
                refine q_icc5 (z := 2) rfl rfl rfl rfl rfl ?_
                refine q_goto rfl ?_
                refine q_iload rfl rfl rfl ?_
                refine q_iconst rfl rfl ?_
                refine q_icge rfl rfl (fun c867 => absurd c867 (by decide)) (fun c867 => ?_)
                refine q_iconst rfl rfl ?_
                refine q_sipush rfl rfl ?_
                refine q_iload_n rfl rfl rfl ?_
                refine q_imul rfl rfl (q_tn (z := 2000) rfl ?_)
                refine q_iload rfl rfl rfl ?_
                refine q_iadd rfl rfl (q_tn (z := 2000) rfl ?_)
                refine q_imul rfl rfl (q_tn (z := 6000) rfl ?_)
                refine q_iload rfl rfl rfl ?_
                refine q_iadd rfl rfl (q_tn (z := 6002) rfl ?_)
                refine q_ist6 rfl rfl rfl rfl ?_
                refine q_aload_n rfl rfl rfl ?_
                refine q_getf rfl rfl (by decide) rfl rfl ?_
                refine q_iload rfl rfl rfl ?_
                refine q_iconst rfl rfl ?_
                refine q_iast rfl rfl (by decide) rfl (by decide) ?_
                refine q_aload_n rfl rfl rfl ?_
                refine q_iload_n rfl rfl rfl ?_
                refine q_iload rfl rfl rfl ?_
                refine q_cV2v rfl rfl (Or.inl rfl) rfl rfl rfl (by decide) rfl ⟨rfl, rfl⟩ rfl (fun K' hK' => l_sa (R := 1) (by decide) rfl (by decide) rfl rfl rfl rfl rfl hK') ?_
                refine q_iload rfl rfl rfl ?_
                refine q_aload_n rfl rfl rfl ?_
                refine q_getf rfl rfl (by decide) rfl rfl ?_
                refine q_icge rfl rfl (fun c868 => ?_) (fun c868 => absurd (by decide) c868)
                refine q_icc5 (z := 3) rfl rfl rfl rfl rfl ?_
                refine q_goto rfl ?_
                refine q_iload rfl rfl rfl ?_
                refine q_iconst rfl rfl ?_
                refine q_icge rfl rfl (fun c869 => ?_) (fun c869 => absurd (by decide) c869)
                refine q_icc4 (z := 1) rfl rfl rfl rfl rfl ?_
                refine q_goto rfl ?_
                refine q_iload rfl rfl rfl ?_
                refine q_aload_n rfl rfl rfl ?_
                refine q_getf rfl rfl (by decide) rfl rfl ?_
                refine q_iload_n rfl rfl rfl ?_
                refine q_iald rfl rfl (by decide) rfl (by decide) (q_tn (z := 1) rfl ?_)
                refine q_icge rfl rfl (fun c870 => ?_) (fun c870 => absurd (by decide) c870)
                refine q_iconst rfl rfl ?_
                refine q_iret rfl rfl rfl ?_
                refine ⟨_, rfl, ?_⟩
                refine q_ifeq rfl rfl (fun c871 => absurd c871 (by decide)) (fun c871 => ?_)
                refine q_iconst rfl rfl ?_
                refine q_goto rfl ?_
                refine q_iast rfl rfl (by decide) (FW_62 S hW) (by decide) ?_
                refine q_iload_n rfl rfl rfl ?_
                refine q_ifne rfl rfl (fun c872 => absurd c872 (by decide)) (fun c872 => ?_)
                refine q_aload_n rfl rfl rfl ?_
                refine q_getf rfl rfl (by decide) rfl rfl ?_
                refine q_iload_n rfl rfl rfl ?_
                refine q_aload_n rfl rfl rfl ?_
                refine q_getf rfl rfl (by decide) rfl rfl ?_
                refine q_iload_n rfl rfl rfl ?_
                refine q_iald rfl rfl (by decide) rfl (by decide) (q_tn (z := 1) rfl ?_)
                refine q_iast rfl rfl (by decide) (FW_63 S hW) (by decide) ?_
                refine q_iconst rfl rfl ?_
                refine q_ist3n rfl rfl rfl rfl ?_
                refine q_iload_n rfl rfl rfl ?_
                refine q_iconst rfl rfl ?_
                refine q_icge rfl rfl (fun c873 => absurd c873 (by decide)) (fun c873 => ?_)
                refine q_aload_n rfl rfl rfl ?_
                refine q_getf rfl rfl (by decide) rfl rfl ?_
                refine q_iconst rfl rfl ?_
                refine q_iload_n rfl rfl rfl ?_
                refine q_imul rfl rfl (q_tn (z := 16) rfl ?_)
                refine q_iload_n rfl rfl rfl ?_
                refine q_iadd rfl rfl (q_tn (z := 16) rfl ?_)
                refine q_iconst rfl rfl ?_
                refine q_iast rfl rfl (by decide) (FW_64 S hW) (by decide) ?_
                refine q_icc3 (z := 1) rfl rfl rfl rfl rfl ?_
                refine q_goto rfl ?_
                refine q_iload_n rfl rfl rfl ?_
                refine q_iconst rfl rfl ?_
                refine q_icge rfl rfl (fun c874 => absurd c874 (by decide)) (fun c874 => ?_)
                refine q_aload_n rfl rfl rfl ?_
                refine q_getf rfl rfl (by decide) rfl rfl ?_
                refine q_iconst rfl rfl ?_
                refine q_iload_n rfl rfl rfl ?_
                refine q_imul rfl rfl (q_tn (z := 16) rfl ?_)
                refine q_iload_n rfl rfl rfl ?_
                refine q_iadd rfl rfl (q_tn (z := 17) rfl ?_)
                refine q_iconst rfl rfl ?_
                refine q_iast rfl rfl (by decide) rfl (by decide) ?_
                refine q_icc3 (z := 2) rfl rfl rfl rfl rfl ?_
                refine q_goto rfl ?_
                refine q_iload_n rfl rfl rfl ?_
                refine q_iconst rfl rfl ?_
                refine q_icge rfl rfl (fun c875 => absurd c875 (by decide)) (fun c875 => ?_)
                refine q_aload_n rfl rfl rfl ?_
                refine q_getf rfl rfl (by decide) rfl rfl ?_
                refine q_iconst rfl rfl ?_
                refine q_iload_n rfl rfl rfl ?_
                refine q_imul rfl rfl (q_tn (z := 16) rfl ?_)
                refine q_iload_n rfl rfl rfl ?_
                refine q_iadd rfl rfl (q_tn (z := 18) rfl ?_)
                refine q_iconst rfl rfl ?_
                refine q_iast rfl rfl (by decide) rfl (by decide) ?_
                refine q_icc3 (z := 3) rfl rfl rfl rfl rfl ?_
                refine q_goto rfl ?_
                refine q_iload_n rfl rfl rfl ?_
                refine q_iconst rfl rfl ?_
                refine q_icge rfl rfl (fun c876 => absurd c876 (by decide)) (fun c876 => ?_)
                refine q_aload_n rfl rfl rfl ?_
                refine q_getf rfl rfl (by decide) rfl rfl ?_
                refine q_iconst rfl rfl ?_
                refine q_iload_n rfl rfl rfl ?_
                refine q_imul rfl rfl (q_tn (z := 16) rfl ?_)
                refine q_iload_n rfl rfl rfl ?_
                refine q_iadd rfl rfl (q_tn (z := 19) rfl ?_)
                refine q_iconst rfl rfl ?_
                refine q_iast rfl rfl (by decide) rfl (by decide) ?_
                refine q_icc3 (z := 4) rfl rfl rfl rfl rfl ?_
                refine q_goto rfl ?_
                refine q_iload_n rfl rfl rfl ?_
                refine q_iconst rfl rfl ?_
                refine q_icge rfl rfl (fun c877 => ?_) (fun c877 => absurd (by decide) c877)
                refine q_iconst rfl rfl ?_
                refine q_ist3n rfl rfl rfl rfl ?_
                refine q_iload_n rfl rfl rfl ?_
                refine q_aload_n rfl rfl rfl ?_
                refine q_getf rfl rfl (by decide) rfl rfl ?_
                refine q_iload_n rfl rfl rfl ?_
                refine q_iald rfl rfl (by decide) rfl (by decide) (q_tn (z := 1) rfl ?_)
                refine q_icge rfl rfl (fun c878 => absurd c878 (by decide)) (fun c878 => ?_)
                refine q_aload_n rfl rfl rfl ?_
                refine q_iload_n rfl rfl rfl ?_
                refine q_iload_n rfl rfl rfl ?_
                refine q_cV2v rfl rfl (Or.inl rfl) rfl rfl rfl (by decide) rfl ⟨rfl, rfl⟩ rfl (fun K' hK' => l_sa (R := 1) (by decide) rfl (by decide) rfl rfl rfl rfl rfl hK') ?_
                refine q_aload_n rfl rfl rfl ?_
                refine q_nV0 rfl rfl (Or.inl rfl) rfl rfl rfl (by decide) rfl ⟨rfl, rfl⟩ rfl ?_
                change PQ _ _ _ mm_X12_isEnd 0 [.ref 46, pm_un, pm_un] [] _ _ 0 0 _
                refine q_iconst rfl rfl ?_
                refine q_ist1n rfl rfl rfl rfl ?_
                refine q_iconst rfl rfl ?_
                refine q_ist2n rfl rfl rfl rfl ?_
                refine q_iload_n rfl rfl rfl ?_
                refine q_aload_n rfl rfl rfl ?_
                refine q_getf rfl rfl (by decide) rfl rfl ?_
                refine q_icge rfl rfl (fun c879 => absurd c879 (by decide)) (fun c879 => ?_)
                refine q_iload_n rfl rfl rfl ?_
                refine q_ifeq rfl rfl (fun c880 => absurd c880 (by decide)) (fun c880 => ?_)
                refine q_aload_n rfl rfl rfl ?_
                refine q_iload_n rfl rfl rfl ?_
                refine q_nV1 rfl rfl (Or.inl rfl) rfl rfl rfl (by decide) rfl ⟨rfl, rfl⟩ rfl ?_
                change PQ _ _ _ mm_X12_isOver 0 [.ref 46, .int 0] [] _ _ 0 0 _
                refine q_aload_n rfl rfl rfl ?_
                refine q_getf rfl rfl (by decide) rfl rfl ?_
                refine q_iconst rfl rfl ?_
                refine q_iload_n rfl rfl rfl ?_
                refine q_imul rfl rfl (q_tn (z := 0) rfl ?_)
                refine q_iald rfl rfl (by decide) rfl (by decide) (q_tn (z := 10) rfl ?_)
                refine q_bipush rfl rfl ?_
                refine q_iclt rfl rfl (fun c881 => absurd c881 (by decide)) (fun c881 => ?_)
                refine q_iconst rfl rfl ?_
                refine q_goto rfl ?_
                refine q_iret rfl rfl rfl ?_
                refine ⟨_, rfl, ?_⟩
                refine q_ifeq rfl rfl (fun c882 => absurd c882 (by decide)) (fun c882 => ?_)
                refine q_iconst rfl rfl ?_
                refine q_goto rfl ?_
                refine q_ist1n rfl rfl rfl rfl ?_
                refine q_icc2 (z := 1) rfl rfl rfl rfl rfl ?_
                refine q_goto rfl ?_
                refine q_iload_n rfl rfl rfl ?_
                refine q_aload_n rfl rfl rfl ?_
                refine q_getf rfl rfl (by decide) rfl rfl ?_
                refine q_icge rfl rfl (fun c883 => ?_) (fun c883 => absurd (by decide) c883)
                refine q_iload_n rfl rfl rfl ?_
                refine q_iret rfl rfl rfl ?_
                refine ⟨_, rfl, ?_⟩
                refine q_ifne rfl rfl (fun c884 => absurd c884 (by decide)) (fun c884 => ?_)
                refine q_iconst rfl rfl ?_
                refine q_ist4 rfl rfl rfl rfl ?_
                refine q_iload rfl rfl rfl ?_
                refine q_iconst rfl rfl ?_
                refine q_icge rfl rfl (fun c885 => absurd c885 (by decide)) (fun c885 => ?_)
                refine q_aload_n rfl rfl rfl ?_
                refine q_getf rfl rfl (by decide) rfl rfl ?_
                refine q_iconst rfl rfl ?_
                refine q_iload_n rfl rfl rfl ?_
                refine q_imul rfl rfl (q_tn (z := 16) rfl ?_)
                refine q_iload rfl rfl rfl ?_
                refine q_iadd rfl rfl (q_tn (z := 16) rfl ?_)
                refine q_dup2 rfl rfl ?_
                refine q_iald rfl rfl (by decide) rfl (by decide) (q_tn (z := 0) rfl ?_)
                refine q_iconst rfl rfl ?_
                refine q_aload_n rfl rfl rfl ?_
                refine q_getf rfl rfl (by decide) rfl rfl ?_
                refine q_bipush rfl rfl ?_
                refine q_iload rfl rfl rfl ?_
                refine q_iadd rfl rfl (q_tn (z := 12) rfl ?_)
                refine q_iald rfl rfl (by decide) rfl (by decide) (q_tn (z := 0) rfl ?_)
                refine q_ishl rfl rfl (q_tn (z := 1) rfl ?_)
                refine q_ior rfl rfl (q_tn (z := 1) rfl ?_)
                refine q_iast rfl rfl (by decide) rfl (by decide) ?_
                refine q_icc4 (z := 1) rfl rfl rfl rfl rfl ?_
                refine q_goto rfl ?_
                refine q_iload rfl rfl rfl ?_
                refine q_iconst rfl rfl ?_
                refine q_icge rfl rfl (fun c886 => absurd c886 (by decide)) (fun c886 => ?_)
                refine q_aload_n rfl rfl rfl ?_
                refine q_getf rfl rfl (by decide) rfl rfl ?_
                refine q_iconst rfl rfl ?_
                refine q_iload_n rfl rfl rfl ?_
                refine q_imul rfl rfl (q_tn (z := 16) rfl ?_)
                refine q_iload rfl rfl rfl ?_
                refine q_iadd rfl rfl (q_tn (z := 17) rfl ?_)
                refine q_dup2 rfl rfl ?_
                refine q_iald rfl rfl (by decide) rfl (by decide) (q_tn (z := 0) rfl ?_)
                refine q_iconst rfl rfl ?_
                refine q_aload_n rfl rfl rfl ?_
                refine q_getf rfl rfl (by decide) rfl rfl ?_
                refine q_bipush rfl rfl ?_
                refine q_iload rfl rfl rfl ?_
                refine q_iadd rfl rfl (q_tn (z := 13) rfl ?_)
                refine q_iald rfl rfl (by decide) rfl (by decide) (q_tn (z := 0) rfl ?_)
                refine q_ishl rfl rfl (q_tn (z := 1) rfl ?_)
                refine q_ior rfl rfl (q_tn (z := 1) rfl ?_)
                refine q_iast rfl rfl (by decide) rfl (by decide) ?_
                refine q_icc4 (z := 2) rfl rfl rfl rfl rfl ?_
                refine q_goto rfl ?_
                refine q_iload rfl rfl rfl ?_
                refine q_iconst rfl rfl ?_
                refine q_icge rfl rfl (fun c887 => absurd c887 (by decide)) (fun c887 => ?_)
                refine q_aload_n rfl rfl rfl ?_
                refine q_getf rfl rfl (by decide) rfl rfl ?_
                refine q_iconst rfl rfl ?_
                refine q_iload_n rfl rfl rfl ?_
                refine q_imul rfl rfl (q_tn (z := 16) rfl ?_)
                refine q_iload rfl rfl rfl ?_
                refine q_iadd rfl rfl (q_tn (z := 18) rfl ?_)
                refine q_dup2 rfl rfl ?_
                refine q_iald rfl rfl (by decide) rfl (by decide) (q_tn (z := 0) rfl ?_)
                refine q_iconst rfl rfl ?_
                refine q_aload_n rfl rfl rfl ?_
                refine q_getf rfl rfl (by decide) rfl rfl ?_
                refine q_bipush rfl rfl ?_
                refine q_iload rfl rfl rfl ?_
                refine q_iadd rfl rfl (q_tn (z := 14) rfl ?_)
                refine q_iald rfl rfl (by decide) rfl (by decide) (q_tn (z := 0) rfl ?_)
                refine q_ishl rfl rfl (q_tn (z := 1) rfl ?_)
                refine q_ior rfl rfl (q_tn (z := 1) rfl ?_)
                refine q_iast rfl rfl (by decide) rfl (by decide) ?_
                refine q_icc4 (z := 3) rfl rfl rfl rfl rfl ?_
                refine q_goto rfl ?_
                refine q_iload rfl rfl rfl ?_
                refine q_iconst rfl rfl ?_
                refine q_icge rfl rfl (fun c888 => absurd c888 (by decide)) (fun c888 => ?_)
                refine q_aload_n rfl rfl rfl ?_
                refine q_getf rfl rfl (by decide) rfl rfl ?_
                refine q_iconst rfl rfl ?_
                refine q_iload_n rfl rfl rfl ?_
                refine q_imul rfl rfl (q_tn (z := 16) rfl ?_)
                refine q_iload rfl rfl rfl ?_
                refine q_iadd rfl rfl (q_tn (z := 19) rfl ?_)
                refine q_dup2 rfl rfl ?_
                refine q_iald rfl rfl (by decide) rfl (by decide) (q_tn (z := 0) rfl ?_)
                refine q_iconst rfl rfl ?_
                refine q_aload_n rfl rfl rfl ?_
                refine q_getf rfl rfl (by decide) rfl rfl ?_
                refine q_bipush rfl rfl ?_
                refine q_iload rfl rfl rfl ?_
                refine q_iadd rfl rfl (q_tn (z := 15) rfl ?_)
                refine q_iald rfl rfl (by decide) rfl (by decide) (q_tn (z := 0) rfl ?_)
                refine q_ishl rfl rfl (q_tn (z := 1) rfl ?_)
                refine q_ior rfl rfl (q_tn (z := 1) rfl ?_)
                refine q_iast rfl rfl (by decide) rfl (by decide) ?_
                refine q_icc4 (z := 4) rfl rfl rfl rfl rfl ?_
                refine q_goto rfl ?_
                refine q_iload rfl rfl rfl ?_
                refine q_iconst rfl rfl ?_
                refine q_icge rfl rfl (fun c889 => ?_) (fun c889 => absurd (by decide) c889)
                refine q_icc3 (z := 1) rfl rfl rfl rfl rfl ?_
                refine q_goto rfl ?_
                refine q_iload_n rfl rfl rfl ?_
                refine q_aload_n rfl rfl rfl ?_
                refine q_getf rfl rfl (by decide) rfl rfl ?_
                refine q_iload_n rfl rfl rfl ?_
                refine q_iald rfl rfl (by decide) rfl (by decide) (q_tn (z := 1) rfl ?_)
                refine q_icge rfl rfl (fun c890 => ?_) (fun c890 => absurd (by decide) c890)
                refine q_aload_n rfl rfl rfl ?_
                refine q_getf rfl rfl (by decide) rfl rfl ?_
                refine q_iload_n rfl rfl rfl ?_
                refine q_iald rfl rfl (by decide) rfl (by decide) (q_tn (z := 1) rfl ?_)
                refine q_iconst rfl rfl ?_
                refine q_icne rfl rfl (fun c891 => absurd c891 (by decide)) (fun c891 => ?_)
                refine q_iconst rfl rfl ?_
                refine q_iret rfl rfl rfl ?_
                refine ⟨_, rfl, ?_⟩
                refine q_ifeq rfl rfl (fun c892 => ?_) (fun c892 => absurd (by decide) c892)
                refine q_aload_n rfl rfl rfl ?_
                refine q_getf rfl rfl (by decide) rfl rfl ?_
                refine q_iload_n rfl rfl rfl ?_
                refine q_iald rfl rfl (by decide) rfl (by decide) (q_tn (z := 1) rfl ?_)
                refine q_iret rfl rfl trivial ?_
                refine ⟨_, rfl, ?_⟩
                refine q_iceq rfl rfl (fun c893 => ?_) (fun c893 => absurd (by decide) c893)
                refine q_icc4 (z := 6) rfl rfl rfl rfl rfl ?_
                refine q_goto rfl ?_
                refine q_iload rfl rfl rfl ?_
                refine q_aload_nF rfl rfl rfl ?_
                refine q_alenX (x := 6) rfl rfl rfl ?_
                refine q_bipush rfl rfl ?_
                refine q_isub rfl rfl (q_tn (z := 0) rfl ?_)
                refine q_icgt rfl rfl (fun c894 => ?_) (fun c894 => absurd (by decide) c894)
                refine q_iconst rfl rfl ?_
                refine q_iret rfl rfl rfl ?_
                exact hK _ _
end TR
