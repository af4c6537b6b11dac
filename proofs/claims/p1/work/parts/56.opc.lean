section TR
variable {EX : pm_M → pm_C → (pm_C → Prop) → Prop} {xs : Nat → Int32} {K : q_K}
set_option maxHeartbeats 40000000 in
set_option maxRecDepth 20000 in
theorem t_op0 {S : Nat → pm_E} (hW : FW S) {x1 x2 x3 x4 x5 : Int32} (hx1 : xs 1 = x1) (hx2 : xs 2 = x2) (hx3 : xs 3 = x3) (hx4 : xs 4 = x4) (hx5 : xs 5 = x5) (hK : ∀ S n, K (some (.int 1)) S n) : PQ (j_SL 6) (j_SV xs) EX mm_L_law 172 [.float 5, .ref 0, .ref 46, .ref 81, .int 0, pm_un, pm_un, pm_un] [] S 82 82 190091 K := by
  refine q_aload_n rfl rfl rfl ?_
  refine q_aload_nF rfl rfl rfl ?_
  refine q_iload rfl rfl rfl ?_
  refine q_iconst rfl rfl ?_
  refine q_iadd rfl rfl (q_tn (z := 1) rfl ?_)
  refine q_ialdX (x := x1) rfl rfl rfl hx1 ?_
  refine q_nV1 rfl rfl (Or.inl rfl) rfl rfl rfl (by decide) (FW_0 S hW) ⟨rfl, rfl⟩ rfl ?_
  change PQ _ _ _ mm_X11_puzzle 0 [.ref 0, .int x1, pm_un] [] _ _ 0 0 _
  refine q_iload_n rfl rfl rfl ?_
  refine q_iconst rfl rfl ?_
  refine q_iclt rfl rfl (fun c1 => ?_) (fun c1 => ?_)
  · refine q_iconst rfl rfl ?_
    refine q_iret rfl rfl trivial ?_
    refine ⟨_, rfl, ?_⟩
    refine q_aload_n rfl rfl rfl ?_
    refine q_aload_nF rfl rfl rfl ?_
    refine q_iload rfl rfl rfl ?_
    refine q_iconst rfl rfl ?_
    refine q_iadd rfl rfl (q_tn (z := 1) rfl ?_)
    refine q_ialdX (x := x1) rfl rfl rfl hx1 ?_
    refine q_nV1 rfl rfl (Or.inl rfl) rfl rfl rfl (by decide) (FW_46 S hW) ⟨rfl, rfl⟩ rfl ?_
    change PQ _ _ _ mm_X12_puzzle 0 [.ref 46, .int x1, pm_un, pm_un] [] _ _ 0 0 _
    refine q_aload_n rfl rfl rfl ?_
    refine q_iload_n rfl rfl rfl ?_
    refine q_iconst rfl rfl ?_
    refine q_iconst rfl rfl ?_
    refine q_nV3 rfl rfl (Or.inl rfl) rfl rfl rfl (by decide) (FW_46 S hW) ⟨rfl, rfl⟩ rfl ?_
    change PQ _ _ _ mm_X12_in 0 [.ref 46, .int x1, .int 1, .int 3] [] _ _ 0 0 _
    refine q_iload_n rfl rfl rfl ?_
    refine q_iload_n rfl rfl rfl ?_
    refine q_iclt rfl rfl (fun c2 => ?_) (fun c2 => absurd (i_lt_t (i_ltle c1 (B := 0) rfl) rfl) c2)
    refine q_iconst rfl rfl ?_
    refine q_iret rfl rfl rfl ?_
    refine ⟨_, rfl, ?_⟩
    refine q_ifne rfl rfl (fun c3 => ?_) (fun c3 => absurd (by decide) c3)
    refine q_iconst rfl rfl ?_
    refine q_iret rfl rfl trivial ?_
    refine ⟨_, rfl, ?_⟩
    refine q_iceq rfl rfl (fun c4 => ?_) (fun c4 => absurd (by decide) c4)
    refine q_icc4 (z := 6) rfl rfl rfl rfl rfl ?_
    refine q_goto rfl ?_
    refine q_iload rfl rfl rfl ?_
    refine q_aload_nF rfl rfl rfl ?_
    refine q_alenX (x := 6) rfl rfl rfl ?_
    refine q_bipush rfl rfl ?_
    refine q_isub rfl rfl (q_tn (z := 0) rfl ?_)
    refine q_icgt rfl rfl (fun c5 => ?_) (fun c5 => absurd (by decide) c5)
    refine q_iconst rfl rfl ?_
    refine q_iret rfl rfl rfl ?_
    exact hK _ _
  · refine q_iload_n rfl rfl rfl ?_
    refine q_iconst rfl rfl ?_
    refine q_icle rfl rfl (fun c6 => ?_) (fun c6 => ?_)
    · refine q_aload_n rfl rfl rfl ?_
      refine q_getf rfl rfl (by decide) (FW_0 S hW) rfl ?_
      refine q_nV0 rfl rfl (Or.inl rfl) rfl rfl rfl (by decide) (FW_1 S hW) ⟨rfl, rfl⟩ rfl ?_
      change PQ _ _ _ mm_X8_statements 0 [.ref 1, pm_un, pm_un] [] _ _ 0 0 _
      refine q_iconst rfl rfl ?_
      refine q_ist1n rfl rfl rfl rfl ?_
      refine q_iconst rfl rfl ?_
      refine q_ist2n rfl rfl rfl rfl ?_
      refine q_iload_n rfl rfl rfl ?_
      refine q_aload_n rfl rfl rfl ?_
      refine q_getf rfl rfl (by decide) (FW_1 S hW) rfl ?_
      refine q_icge rfl rfl (fun c7 => absurd c7 (by decide)) (fun c7 => ?_)
      refine q_iload_n rfl rfl rfl ?_
      refine q_aload_n rfl rfl rfl ?_
      refine q_getf rfl rfl (by decide) (FW_1 S hW) rfl ?_
      refine q_iload_n rfl rfl rfl ?_
      refine q_iald rfl rfl (by decide) (FW_3 S hW) (by decide) (q_tn (z := 0) rfl ?_)
      refine q_iadd rfl rfl (q_tn (z := 0) rfl ?_)
      refine q_ist1n rfl rfl rfl rfl ?_
      refine q_icc2 (z := 1) rfl rfl rfl rfl rfl ?_
      refine q_goto rfl ?_
      refine q_iload_n rfl rfl rfl ?_
      refine q_aload_n rfl rfl rfl ?_
      refine q_getf rfl rfl (by decide) (FW_1 S hW) rfl ?_
      refine q_icge rfl rfl (fun c8 => ?_) (fun c8 => absurd (by decide) c8)
      refine q_iload_n rfl rfl rfl ?_
      refine q_iret rfl rfl trivial ?_
      refine ⟨_, rfl, ?_⟩
      refine q_ist2n rfl rfl rfl rfl ?_
      refine q_aload_n rfl rfl rfl ?_
      refine q_getf rfl rfl (by decide) (FW_0 S hW) rfl ?_
      refine q_iload_n rfl rfl rfl ?_
      refine q_nV1v rfl rfl (Or.inl rfl) rfl rfl rfl (by decide) (FW_1 S hW) ⟨rfl, rfl⟩ rfl ?_
      change PQ _ _ _ mm_X8_renew 0 [.ref 1, .int x1] [] _ _ 0 0 _
      refine q_aload_n rfl rfl rfl ?_
      refine q_iload_n rfl rfl rfl ?_
      refine q_putf rfl rfl (by decide) (FW_1 S hW) (by decide) rfl trivial ?_
      refine q_aload_n rfl rfl rfl ?_
      refine q_getf rfl rfl (by decide) rfl rfl ?_
      refine q_iconst rfl rfl ?_
      refine q_cS2v rfl rfl (Or.inl rfl) rfl rfl ⟨rfl, rfl⟩ rfl (fun K' hK' => l_fill (by decide) (FW_3 S hW) (by decide) hK') ?_
      refine q_aload_n rfl rfl rfl ?_
      refine q_getf rfl rfl (by decide) rfl rfl ?_
      refine q_iconst rfl rfl ?_
      refine q_cS2v rfl rfl (Or.inl rfl) rfl rfl ⟨rfl, rfl⟩ rfl (fun K' hK' => l_fill (by decide) (FW_2 S hW) (by decide) hK') ?_
      refine q_ret rfl rfl ?_
      refine ⟨rfl, ?_⟩
      refine q_aload_n rfl rfl rfl ?_
      refine q_nV0v rfl rfl (Or.inl rfl) rfl rfl rfl (by decide) (FW_0 S hW) ⟨rfl, rfl⟩ rfl ?_
      change PQ _ _ _ mm_X11_forget 0 [.ref 0] [] _ _ 0 0 _
      refine q_aload_n rfl rfl rfl ?_
      refine q_getf rfl rfl (by decide) (FW_0 S hW) rfl ?_
      refine q_iconst rfl rfl ?_
      refine q_cS2v rfl rfl (Or.inl rfl) rfl rfl ⟨rfl, rfl⟩ rfl (fun K' hK' => l_fill (by decide) (FW_44 S hW) (by decide) hK') ?_
      refine q_aload_n rfl rfl rfl ?_
      refine q_iconst rfl rfl ?_
      refine q_putf rfl rfl (by decide) (FW_0 S hW) (by decide) rfl rfl ?_
      refine q_aload_n rfl rfl rfl ?_
      refine q_getf rfl rfl (by decide) rfl rfl ?_
      refine q_iconst rfl rfl ?_
      refine q_putf rfl rfl (by decide) (FW_32 S hW) (by decide) rfl rfl ?_
      refine q_aload_n rfl rfl rfl ?_
      refine q_getf rfl rfl (by decide) rfl rfl ?_
      refine q_nV0v rfl rfl (Or.inl rfl) rfl rfl rfl (by decide) (FW_42 S hW) ⟨rfl, rfl⟩ rfl ?_
      change PQ _ _ _ mm_X3_clear 0 [.ref 42] [] _ _ 0 0 _
      refine q_aload_n rfl rfl rfl ?_
      refine q_lconst rfl rfl ?_
      refine q_putf rfl rfl (by decide) (FW_42 S hW) (by decide) rfl trivial ?_
      refine q_aload_n rfl rfl rfl ?_
      refine q_lconst rfl rfl ?_
      refine q_putf rfl rfl (by decide) rfl (by decide) rfl trivial ?_
      refine q_ret rfl rfl ?_
      refine ⟨rfl, ?_⟩
      refine q_aload_n rfl rfl rfl ?_
      refine q_aload_n rfl rfl rfl ?_
      refine q_getf rfl rfl (by decide) rfl rfl ?_
      refine q_nV0 rfl rfl (Or.inl rfl) rfl rfl rfl (by decide) (FW_7 S hW) ⟨rfl, rfl⟩ rfl ?_
      change PQ _ _ _ mm_X6_first 0 [.ref 7, pm_un, pm_un, pm_un] [] _ _ 0 0 _
      refine q_lconst rfl rfl ?_
      refine q_lst1n rfl rfl rfl rfl ?_
      refine q_iconst rfl rfl ?_
      refine q_ist3n rfl rfl rfl rfl ?_
      refine q_iload_n rfl rfl rfl ?_
      refine q_iconst rfl rfl ?_
      refine q_icge rfl rfl (fun c9 => absurd c9 (by decide)) (fun c9 => ?_)
      refine q_lload_n rfl rfl rfl ?_
      refine q_iload_n rfl rfl rfl ?_
      refine q_aload_n rfl rfl rfl ?_
      refine q_getf rfl rfl (by decide) (FW_7 S hW) rfl ?_
      refine q_getf rfl rfl (by decide) rfl rfl ?_
      refine q_iload_n rfl rfl rfl ?_
      refine q_iald rfl rfl (by decide) rfl (by decide) (q_tn (z := 0) rfl ?_)
      refine q_nS3 rfl rfl (Or.inl rfl) rfl rfl ⟨rfl, rfl⟩ rfl ?_
      change PQ _ _ _ mm_X0_withPlace 0 [.long 0, pm_un, .int 0, .int 0, pm_un] [] _ _ 0 0 _
      refine q_bipush rfl rfl ?_
      refine q_iconst rfl rfl ?_
      refine q_iload_n rfl rfl rfl ?_
      refine q_imul rfl rfl (q_tn (z := 0) rfl ?_)
      refine q_iadd rfl rfl (q_tn (z := 36) rfl ?_)
      refine q_ist4 rfl rfl rfl rfl ?_
      refine q_lload_n rfl rfl rfl ?_
      refine q_ldc2 rfl rfl ?_
      refine q_iload rfl rfl rfl ?_
      refine q_lshl rfl rfl (q_tnl (z := 1030792151040) rfl ?_)
      refine q_ldc2 rfl rfl ?_
      refine q_lxor rfl rfl (q_tnl (z := (-1030792151041)) rfl ?_)
      refine q_land rfl rfl (q_tnl (z := 0) rfl ?_)
      refine q_iload_n rfl rfl rfl ?_
      refine q_i2l rfl rfl (q_tnl (z := 0) rfl ?_)
      refine q_iload rfl rfl rfl ?_
      refine q_lshl rfl rfl (q_tnl (z := 0) rfl ?_)
      refine q_lor rfl rfl (q_tnl (z := 0) rfl ?_)
      refine q_lret rfl rfl trivial ?_
      refine ⟨_, rfl, ?_⟩
      refine q_lst1n rfl rfl rfl rfl ?_
      refine q_icc3 (z := 1) rfl rfl rfl rfl rfl ?_
      refine q_goto rfl ?_
      refine q_iload_n rfl rfl rfl ?_
      refine q_iconst rfl rfl ?_
      refine q_icge rfl rfl (fun c10 => absurd c10 (by decide)) (fun c10 => ?_)
      refine q_lload_n rfl rfl rfl ?_
      refine q_iload_n rfl rfl rfl ?_
      refine q_aload_n rfl rfl rfl ?_
      refine q_getf rfl rfl (by decide) (FW_7 S hW) rfl ?_
      refine q_getf rfl rfl (by decide) rfl rfl ?_
      refine q_iload_n rfl rfl rfl ?_
      refine q_iald rfl rfl (by decide) rfl (by decide) (q_tn (z := 0) rfl ?_)
      refine q_nS3 rfl rfl (Or.inl rfl) rfl rfl ⟨rfl, rfl⟩ rfl ?_
      change PQ _ _ _ mm_X0_withPlace 0 [.long 0, pm_un, .int 1, .int 0, pm_un] [] _ _ 0 0 _
      refine q_bipush rfl rfl ?_
      refine q_iconst rfl rfl ?_
      refine q_iload_n rfl rfl rfl ?_
      refine q_imul rfl rfl (q_tn (z := 4) rfl ?_)
      refine q_iadd rfl rfl (q_tn (z := 40) rfl ?_)
      refine q_ist4 rfl rfl rfl rfl ?_
      refine q_lload_n rfl rfl rfl ?_
      refine q_ldc2 rfl rfl ?_
      refine q_iload rfl rfl rfl ?_
      refine q_lshl rfl rfl (q_tnl (z := 16492674416640) rfl ?_)
      refine q_ldc2 rfl rfl ?_
      refine q_lxor rfl rfl (q_tnl (z := (-16492674416641)) rfl ?_)
      refine q_land rfl rfl (q_tnl (z := 0) rfl ?_)
      refine q_iload_n rfl rfl rfl ?_
      refine q_i2l rfl rfl (q_tnl (z := 0) rfl ?_)
      refine q_iload rfl rfl rfl ?_
      refine q_lshl rfl rfl (q_tnl (z := 0) rfl ?_)
      refine q_lor rfl rfl (q_tnl (z := 0) rfl ?_)
      refine q_lret rfl rfl trivial ?_
      refine ⟨_, rfl, ?_⟩
      refine q_lst1n rfl rfl rfl rfl ?_
      refine q_icc3 (z := 2) rfl rfl rfl rfl rfl ?_
      refine q_goto rfl ?_
      refine q_iload_n rfl rfl rfl ?_
      refine q_iconst rfl rfl ?_
      refine q_icge rfl rfl (fun c11 => absurd c11 (by decide)) (fun c11 => ?_)
      refine q_lload_n rfl rfl rfl ?_
      refine q_iload_n rfl rfl rfl ?_
      refine q_aload_n rfl rfl rfl ?_
      refine q_getf rfl rfl (by decide) (FW_7 S hW) rfl ?_
      refine q_getf rfl rfl (by decide) rfl rfl ?_
      refine q_iload_n rfl rfl rfl ?_
      refine q_iald rfl rfl (by decide) rfl (by decide) (q_tn (z := 0) rfl ?_)
      refine q_nS3 rfl rfl (Or.inl rfl) rfl rfl ⟨rfl, rfl⟩ rfl ?_
      change PQ _ _ _ mm_X0_withPlace 0 [.long 0, pm_un, .int 2, .int 0, pm_un] [] _ _ 0 0 _
      refine q_bipush rfl rfl ?_
      refine q_iconst rfl rfl ?_
      refine q_iload_n rfl rfl rfl ?_
      refine q_imul rfl rfl (q_tn (z := 8) rfl ?_)
      refine q_iadd rfl rfl (q_tn (z := 44) rfl ?_)
      refine q_ist4 rfl rfl rfl rfl ?_
      refine q_lload_n rfl rfl rfl ?_
      refine q_ldc2 rfl rfl ?_
      refine q_iload rfl rfl rfl ?_
      refine q_lshl rfl rfl (q_tnl (z := 263882790666240) rfl ?_)
      refine q_ldc2 rfl rfl ?_
      refine q_lxor rfl rfl (q_tnl (z := (-263882790666241)) rfl ?_)
      refine q_land rfl rfl (q_tnl (z := 0) rfl ?_)
      refine q_iload_n rfl rfl rfl ?_
      refine q_i2l rfl rfl (q_tnl (z := 0) rfl ?_)
      refine q_iload rfl rfl rfl ?_
      refine q_lshl rfl rfl (q_tnl (z := 0) rfl ?_)
      refine q_lor rfl rfl (q_tnl (z := 0) rfl ?_)
      refine q_lret rfl rfl trivial ?_
      refine ⟨_, rfl, ?_⟩
      refine q_lst1n rfl rfl rfl rfl ?_
      refine q_icc3 (z := 3) rfl rfl rfl rfl rfl ?_
      refine q_goto rfl ?_
      refine q_iload_n rfl rfl rfl ?_
      refine q_iconst rfl rfl ?_
      refine q_icge rfl rfl (fun c12 => absurd c12 (by decide)) (fun c12 => ?_)
      refine q_lload_n rfl rfl rfl ?_
      refine q_iload_n rfl rfl rfl ?_
      refine q_aload_n rfl rfl rfl ?_
      refine q_getf rfl rfl (by decide) (FW_7 S hW) rfl ?_
      refine q_getf rfl rfl (by decide) rfl rfl ?_
      refine q_iload_n rfl rfl rfl ?_
      refine q_iald rfl rfl (by decide) rfl (by decide) (q_tn (z := 0) rfl ?_)
      refine q_nS3 rfl rfl (Or.inl rfl) rfl rfl ⟨rfl, rfl⟩ rfl ?_
      change PQ _ _ _ mm_X0_withPlace 0 [.long 0, pm_un, .int 3, .int 0, pm_un] [] _ _ 0 0 _
      refine q_bipush rfl rfl ?_
      refine q_iconst rfl rfl ?_
      refine q_iload_n rfl rfl rfl ?_
      refine q_imul rfl rfl (q_tn (z := 12) rfl ?_)
      refine q_iadd rfl rfl (q_tn (z := 48) rfl ?_)
      refine q_ist4 rfl rfl rfl rfl ?_
      refine q_lload_n rfl rfl rfl ?_
      refine q_ldc2 rfl rfl ?_
      refine q_iload rfl rfl rfl ?_
      refine q_lshl rfl rfl (q_tnl (z := 4222124650659840) rfl ?_)
      refine q_ldc2 rfl rfl ?_
      refine q_lxor rfl rfl (q_tnl (z := (-4222124650659841)) rfl ?_)
      refine q_land rfl rfl (q_tnl (z := 0) rfl ?_)
      refine q_iload_n rfl rfl rfl ?_
      refine q_i2l rfl rfl (q_tnl (z := 0) rfl ?_)
      refine q_iload rfl rfl rfl ?_
      refine q_lshl rfl rfl (q_tnl (z := 0) rfl ?_)
      refine q_lor rfl rfl (q_tnl (z := 0) rfl ?_)
      refine q_lret rfl rfl trivial ?_
      refine ⟨_, rfl, ?_⟩
      refine q_lst1n rfl rfl rfl rfl ?_
      refine q_icc3 (z := 4) rfl rfl rfl rfl rfl ?_
      refine q_goto rfl ?_
      refine q_iload_n rfl rfl rfl ?_
      refine q_iconst rfl rfl ?_
      refine q_icge rfl rfl (fun c13 => ?_) (fun c13 => absurd (by decide) c13)
      refine q_lload_n rfl rfl rfl ?_
      refine q_lret rfl rfl trivial ?_
      refine ⟨_, rfl, ?_⟩
      refine q_putf rfl rfl (by decide) rfl (by decide) rfl trivial ?_
      refine q_ret rfl rfl ?_
      refine ⟨rfl, ?_⟩
      refine q_iload_n rfl rfl rfl ?_
      refine q_iret rfl rfl trivial ?_
      refine ⟨_, rfl, ?_⟩
      refine q_aload_n rfl rfl rfl ?_
      refine q_aload_nF rfl rfl rfl ?_
      refine q_iload rfl rfl rfl ?_
      refine q_iconst rfl rfl ?_
      refine q_iadd rfl rfl (q_tn (z := 1) rfl ?_)
      refine q_ialdX (x := x1) rfl rfl rfl hx1 ?_
      refine q_nV1 rfl rfl (Or.inl rfl) rfl rfl rfl (by decide) (FW_46 S hW) ⟨rfl, rfl⟩ rfl ?_
      change PQ _ _ _ mm_X12_puzzle 0 [.ref 46, .int x1, pm_un, pm_un] [] _ _ 0 0 _
      refine q_aload_n rfl rfl rfl ?_
      refine q_iload_n rfl rfl rfl ?_
      refine q_iconst rfl rfl ?_
      refine q_iconst rfl rfl ?_
      refine q_nV3 rfl rfl (Or.inl rfl) rfl rfl rfl (by decide) (FW_46 S hW) ⟨rfl, rfl⟩ rfl ?_
      change PQ _ _ _ mm_X12_in 0 [.ref 46, .int x1, .int 1, .int 3] [] _ _ 0 0 _
      refine q_iload_n rfl rfl rfl ?_
      refine q_iload_n rfl rfl rfl ?_
      refine q_iclt rfl rfl (fun c14 => absurd c14 (i_lt_f (i_nlt c1) rfl)) (fun c14 => ?_)
      refine q_iload_n rfl rfl rfl ?_
      refine q_iload_n rfl rfl rfl ?_
      refine q_icgt rfl rfl (fun c15 => absurd c15 (i_gt_f c6 rfl)) (fun c15 => ?_)
      refine q_iconst rfl rfl ?_
      refine q_goto rfl ?_
      refine q_iret rfl rfl rfl ?_
      refine ⟨_, rfl, ?_⟩
      refine q_ifne rfl rfl (fun c16 => absurd c16 (by decide)) (fun c16 => ?_)
      refine q_iconst rfl rfl ?_
      refine q_ist2n rfl rfl rfl rfl ?_
      refine q_iconst rfl rfl ?_
      refine q_ist3n rfl rfl rfl rfl ?_
      refine q_iload_n rfl rfl rfl ?_
      refine q_iconst rfl rfl ?_
      refine q_icge rfl rfl (fun c17 => absurd c17 (by decide)) (fun c17 => ?_)
      refine q_iload_n rfl rfl rfl ?_
      refine q_iload_n rfl rfl rfl ?_
      refine q_aload_n rfl rfl rfl ?_
      refine q_getf rfl rfl (by decide) (FW_46 S hW) rfl ?_
      refine q_icge rfl rfl (fun c18 => absurd c18 (by decide)) (fun c18 => ?_)
      refine q_aload_n rfl rfl rfl ?_
      refine q_getf rfl rfl (by decide) (FW_46 S hW) rfl ?_
      refine q_iload_n rfl rfl rfl ?_
      refine q_iald rfl rfl (by decide) (FW_47 S hW) (by decide) (q_tn (z := 0) rfl ?_)
      refine q_goto rfl ?_
      refine q_iadd rfl rfl (q_tn (z := 0) rfl ?_)
      refine q_ist2n rfl rfl rfl rfl ?_
      refine q_aload_n rfl rfl rfl ?_
      refine q_getf rfl rfl (by decide) (FW_46 S hW) rfl ?_
      refine q_iload_n rfl rfl rfl ?_
      refine q_iconst rfl rfl ?_
      refine q_iast rfl rfl (by decide) (FW_47 S hW) (by decide) ?_
      refine q_icc3 (z := 1) rfl rfl rfl rfl rfl ?_
      refine q_goto rfl ?_
      refine q_iload_n rfl rfl rfl ?_
      refine q_iconst rfl rfl ?_
      refine q_icge rfl rfl (fun c19 => absurd c19 (by decide)) (fun c19 => ?_)
      refine q_iload_n rfl rfl rfl ?_
      refine q_iload_n rfl rfl rfl ?_
      refine q_aload_n rfl rfl rfl ?_
      refine q_getf rfl rfl (by decide) (FW_46 S hW) rfl ?_
      refine q_icge rfl rfl (fun c20 => ?_) (fun c20 => absurd (by decide) c20)
      refine q_iconst rfl rfl ?_
      refine q_iadd rfl rfl (q_tn (z := 0) rfl ?_)
      refine q_ist2n rfl rfl rfl rfl ?_
      refine q_aload_n rfl rfl rfl ?_
      refine q_getf rfl rfl (by decide) (FW_46 S hW) rfl ?_
      refine q_iload_n rfl rfl rfl ?_
      refine q_iconst rfl rfl ?_
      refine q_iast rfl rfl (by decide) rfl (by decide) ?_
      refine q_icc3 (z := 2) rfl rfl rfl rfl rfl ?_
      refine q_goto rfl ?_
      refine q_iload_n rfl rfl rfl ?_
      refine q_iconst rfl rfl ?_
      refine q_icge rfl rfl (fun c21 => absurd c21 (by decide)) (fun c21 => ?_)
      refine q_iload_n rfl rfl rfl ?_
      refine q_iload_n rfl rfl rfl ?_
      refine q_aload_n rfl rfl rfl ?_
      refine q_getf rfl rfl (by decide) (FW_46 S hW) rfl ?_
      refine q_icge rfl rfl (fun c22 => ?_) (fun c22 => absurd (by decide) c22)
      refine q_iconst rfl rfl ?_
      refine q_iadd rfl rfl (q_tn (z := 0) rfl ?_)
      refine q_ist2n rfl rfl rfl rfl ?_
      refine q_aload_n rfl rfl rfl ?_
      refine q_getf rfl rfl (by decide) (FW_46 S hW) rfl ?_
      refine q_iload_n rfl rfl rfl ?_
      refine q_iconst rfl rfl ?_
      refine q_iast rfl rfl (by decide) rfl (by decide) ?_
      refine q_icc3 (z := 3) rfl rfl rfl rfl rfl ?_
      refine q_goto rfl ?_
      refine q_iload_n rfl rfl rfl ?_
      refine q_iconst rfl rfl ?_
      refine q_icge rfl rfl (fun c23 => ?_) (fun c23 => absurd (by decide) c23)
      refine q_aload_n rfl rfl rfl ?_
      refine q_iload_n rfl rfl rfl ?_
      refine q_putf rfl rfl (by decide) (FW_46 S hW) (by decide) rfl trivial ?_
      refine q_iconst rfl rfl ?_
      refine q_ist3n rfl rfl rfl rfl ?_
      refine q_iload_n rfl rfl rfl ?_
      refine q_iconst rfl rfl ?_
      refine q_icge rfl rfl (fun c24 => absurd c24 (by decide)) (fun c24 => ?_)
      refine q_aload_n rfl rfl rfl ?_
      refine q_getf rfl rfl (by decide) rfl rfl ?_
      refine q_iload_n rfl rfl rfl ?_
      refine q_iconst rfl rfl ?_
      refine q_iast rfl rfl (by decide) (FW_51 S hW) (by decide) ?_
      refine q_icc3 (z := 1) rfl rfl rfl rfl rfl ?_
      refine q_goto rfl ?_
      refine q_iload_n rfl rfl rfl ?_
      refine q_iconst rfl rfl ?_
      refine q_icge rfl rfl (fun c25 => absurd c25 (by decide)) (fun c25 => ?_)
      refine q_aload_n rfl rfl rfl ?_
      refine q_getf rfl rfl (by decide) rfl rfl ?_
      refine q_iload_n rfl rfl rfl ?_
      refine q_iconst rfl rfl ?_
      refine q_iast rfl rfl (by decide) rfl (by decide) ?_
      refine q_icc3 (z := 2) rfl rfl rfl rfl rfl ?_
      refine q_goto rfl ?_
      refine q_iload_n rfl rfl rfl ?_
      refine q_iconst rfl rfl ?_
      refine q_icge rfl rfl (fun c26 => absurd c26 (by decide)) (fun c26 => ?_)
      refine q_aload_n rfl rfl rfl ?_
      refine q_getf rfl rfl (by decide) rfl rfl ?_
      refine q_iload_n rfl rfl rfl ?_
      refine q_iconst rfl rfl ?_
      refine q_iast rfl rfl (by decide) rfl (by decide) ?_
      refine q_icc3 (z := 3) rfl rfl rfl rfl rfl ?_
      refine q_goto rfl ?_
      refine q_iload_n rfl rfl rfl ?_
      refine q_iconst rfl rfl ?_
      refine q_icge rfl rfl (fun c27 => absurd c27 (by decide)) (fun c27 => ?_)
      refine q_aload_n rfl rfl rfl ?_
      refine q_getf rfl rfl (by decide) rfl rfl ?_
      refine q_iload_n rfl rfl rfl ?_
      refine q_iconst rfl rfl ?_
      refine q_iast rfl rfl (by decide) rfl (by decide) ?_
      refine q_icc3 (z := 4) rfl rfl rfl rfl rfl ?_
      refine q_goto rfl ?_
      refine q_iload_n rfl rfl rfl ?_
      refine q_iconst rfl rfl ?_
      refine q_icge rfl rfl (fun c28 => ?_) (fun c28 => absurd (by decide) c28)
      refine q_aload_n rfl rfl rfl ?_
      refine q_nV0v rfl rfl (Or.inl rfl) rfl rfl rfl (by decide) rfl ⟨rfl, rfl⟩ rfl ?_
      change PQ _ _ _ mm_X12_changed 0 [.ref 46, pm_un] [] _ _ 0 0 _
      refine q_aload_n rfl rfl rfl ?_
      refine q_nV0v rfl rfl (Or.inl rfl) rfl rfl rfl (by decide) rfl ⟨rfl, rfl⟩ rfl ?_
      change PQ _ _ _ mm_X12_toFirst 0 [.ref 46, pm_un] [] _ _ 0 0 _
      refine q_aload_n rfl rfl rfl ?_
      refine q_iconst rfl rfl ?_
      refine q_putf rfl rfl (by decide) rfl (Nat.lt_of_lt_of_le (Nat.lt_succ_self _) (Nat.le_of_ble_eq_true rfl)) rfl trivial ?_
      refine q_aload_n rfl rfl rfl ?_
      refine q_nV0v rfl rfl (Or.inl rfl) rfl rfl rfl (by decide) rfl ⟨rfl, rfl⟩ rfl ?_
      change PQ _ _ _ mm_X12_firstState 0 [.ref 46, pm_un] [] _ _ 0 0 _
      refine q_iconst rfl rfl ?_
      refine q_ist1n rfl rfl rfl rfl ?_
      refine q_iload_n rfl rfl rfl ?_
      refine q_bipush rfl rfl ?_
      refine q_icge rfl rfl (fun c29 => absurd c29 (by decide)) (fun c29 => ?_)
      refine q_aload_n rfl rfl rfl ?_
      refine q_getf rfl rfl (by decide) rfl rfl ?_
      refine q_iload_n rfl rfl rfl ?_
      refine q_iconst rfl rfl ?_
      refine q_iast rfl rfl (by decide) (FW_52 S hW) (by decide) ?_
      refine q_icc1 (z := 1) rfl rfl rfl rfl rfl ?_
      refine q_goto rfl ?_
      refine q_iload_n rfl rfl rfl ?_
      refine q_bipush rfl rfl ?_
      refine q_icge rfl rfl (fun c30 => absurd c30 (by decide)) (fun c30 => ?_)
      refine q_aload_n rfl rfl rfl ?_
      refine q_getf rfl rfl (by decide) rfl rfl ?_
      refine q_iload_n rfl rfl rfl ?_
      refine q_iconst rfl rfl ?_
      refine q_iast rfl rfl (by decide) rfl (by decide) ?_
      refine q_icc1 (z := 2) rfl rfl rfl rfl rfl ?_
      refine q_goto rfl ?_
      refine q_iload_n rfl rfl rfl ?_
      refine q_bipush rfl rfl ?_
      refine q_icge rfl rfl (fun c31 => absurd c31 (by decide)) (fun c31 => ?_)
      refine q_aload_n rfl rfl rfl ?_
      refine q_getf rfl rfl (by decide) rfl rfl ?_
      refine q_iload_n rfl rfl rfl ?_
      refine q_iconst rfl rfl ?_
      refine q_iast rfl rfl (by decide) rfl (by decide) ?_
      refine q_icc1 (z := 3) rfl rfl rfl rfl rfl ?_
      refine q_goto rfl ?_
      refine q_iload_n rfl rfl rfl ?_
      refine q_bipush rfl rfl ?_
      refine q_icge rfl rfl (fun c32 => absurd c32 (by decide)) (fun c32 => ?_)
      refine q_aload_n rfl rfl rfl ?_
      refine q_getf rfl rfl (by decide) rfl rfl ?_
      refine q_iload_n rfl rfl rfl ?_
      refine q_iconst rfl rfl ?_
      refine q_iast rfl rfl (by decide) rfl (by decide) ?_
      refine q_icc1 (z := 4) rfl rfl rfl rfl rfl ?_
      refine q_goto rfl ?_
      refine q_iload_n rfl rfl rfl ?_
      refine q_bipush rfl rfl ?_
      refine q_icge rfl rfl (fun c33 => absurd c33 (by decide)) (fun c33 => ?_)
      refine q_aload_n rfl rfl rfl ?_
      refine q_getf rfl rfl (by decide) rfl rfl ?_
      refine q_iload_n rfl rfl rfl ?_
      refine q_iconst rfl rfl ?_
      refine q_iast rfl rfl (by decide) rfl (by decide) ?_
      refine q_icc1 (z := 5) rfl rfl rfl rfl rfl ?_
      refine q_goto rfl ?_
      refine q_iload_n rfl rfl rfl ?_
      refine q_bipush rfl rfl ?_
      refine q_icge rfl rfl (fun c34 => absurd c34 (by decide)) (fun c34 => ?_)
      refine q_aload_n rfl rfl rfl ?_
      refine q_getf rfl rfl (by decide) rfl rfl ?_
      refine q_iload_n rfl rfl rfl ?_
      refine q_iconst rfl rfl ?_
      refine q_iast rfl rfl (by decide) rfl (by decide) ?_
      refine q_icc1 (z := 6) rfl rfl rfl rfl rfl ?_
      refine q_goto rfl ?_
      refine q_iload_n rfl rfl rfl ?_
      refine q_bipush rfl rfl ?_
      refine q_icge rfl rfl (fun c35 => absurd c35 (by decide)) (fun c35 => ?_)
      refine q_aload_n rfl rfl rfl ?_
      refine q_getf rfl rfl (by decide) rfl rfl ?_
      refine q_iload_n rfl rfl rfl ?_
      refine q_iconst rfl rfl ?_
      refine q_iast rfl rfl (by decide) rfl (by decide) ?_
      refine q_icc1 (z := 7) rfl rfl rfl rfl rfl ?_
      refine q_goto rfl ?_
      refine q_iload_n rfl rfl rfl ?_
      refine q_bipush rfl rfl ?_
      refine q_icge rfl rfl (fun c36 => absurd c36 (by decide)) (fun c36 => ?_)
      refine q_aload_n rfl rfl rfl ?_
      refine q_getf rfl rfl (by decide) rfl rfl ?_
      refine q_iload_n rfl rfl rfl ?_
      refine q_iconst rfl rfl ?_
      refine q_iast rfl rfl (by decide) rfl (by decide) ?_
      refine q_icc1 (z := 8) rfl rfl rfl rfl rfl ?_
      refine q_goto rfl ?_
      refine q_iload_n rfl rfl rfl ?_
      refine q_bipush rfl rfl ?_
      refine q_icge rfl rfl (fun c37 => absurd c37 (by decide)) (fun c37 => ?_)
      refine q_aload_n rfl rfl rfl ?_
      refine q_getf rfl rfl (by decide) rfl rfl ?_
      refine q_iload_n rfl rfl rfl ?_
      refine q_iconst rfl rfl ?_
      refine q_iast rfl rfl (by decide) rfl (by decide) ?_
      refine q_icc1 (z := 9) rfl rfl rfl rfl rfl ?_
      refine q_goto rfl ?_
      refine q_iload_n rfl rfl rfl ?_
      refine q_bipush rfl rfl ?_
      refine q_icge rfl rfl (fun c38 => absurd c38 (by decide)) (fun c38 => ?_)
      refine q_aload_n rfl rfl rfl ?_
      refine q_getf rfl rfl (by decide) rfl rfl ?_
      refine q_iload_n rfl rfl rfl ?_
      refine q_iconst rfl rfl ?_
      refine q_iast rfl rfl (by decide) rfl (by decide) ?_
      refine q_icc1 (z := 10) rfl rfl rfl rfl rfl ?_
      refine q_goto rfl ?_
      refine q_iload_n rfl rfl rfl ?_
      refine q_bipush rfl rfl ?_
      refine q_icge rfl rfl (fun c39 => absurd c39 (by decide)) (fun c39 => ?_)
      refine q_aload_n rfl rfl rfl ?_
      refine q_getf rfl rfl (by decide) rfl rfl ?_
      refine q_iload_n rfl rfl rfl ?_
      refine q_iconst rfl rfl ?_
      refine q_iast rfl rfl (by decide) rfl (by decide) ?_
      refine q_icc1 (z := 11) rfl rfl rfl rfl rfl ?_
      refine q_goto rfl ?_
      refine q_iload_n rfl rfl rfl ?_
      refine q_bipush rfl rfl ?_
      refine q_icge rfl rfl (fun c40 => absurd c40 (by decide)) (fun c40 => ?_)
      refine q_aload_n rfl rfl rfl ?_
      refine q_getf rfl rfl (by decide) rfl rfl ?_
      refine q_iload_n rfl rfl rfl ?_
      refine q_iconst rfl rfl ?_
      refine q_iast rfl rfl (by decide) rfl (by decide) ?_
      refine q_icc1 (z := 12) rfl rfl rfl rfl rfl ?_
      refine q_goto rfl ?_
      refine q_iload_n rfl rfl rfl ?_
      refine q_bipush rfl rfl ?_
      refine q_icge rfl rfl (fun c41 => absurd c41 (by decide)) (fun c41 => ?_)
      refine q_aload_n rfl rfl rfl ?_
      refine q_getf rfl rfl (by decide) rfl rfl ?_
      refine q_iload_n rfl rfl rfl ?_
      refine q_iconst rfl rfl ?_
      refine q_iast rfl rfl (by decide) rfl (by decide) ?_
      refine q_icc1 (z := 13) rfl rfl rfl rfl rfl ?_
      refine q_goto rfl ?_
      refine q_iload_n rfl rfl rfl ?_
      refine q_bipush rfl rfl ?_
      refine q_icge rfl rfl (fun c42 => absurd c42 (by decide)) (fun c42 => ?_)
      refine q_aload_n rfl rfl rfl ?_
      refine q_getf rfl rfl (by decide) rfl rfl ?_
      refine q_iload_n rfl rfl rfl ?_
      refine q_iconst rfl rfl ?_
      refine q_iast rfl rfl (by decide) rfl (by decide) ?_
      refine q_icc1 (z := 14) rfl rfl rfl rfl rfl ?_
      refine q_goto rfl ?_
      refine q_iload_n rfl rfl rfl ?_
      refine q_bipush rfl rfl ?_
      refine q_icge rfl rfl (fun c43 => absurd c43 (by decide)) (fun c43 => ?_)
      refine q_aload_n rfl rfl rfl ?_
      refine q_getf rfl rfl (by decide) rfl rfl ?_
      refine q_iload_n rfl rfl rfl ?_
      refine q_iconst rfl rfl ?_
      refine q_iast rfl rfl (by decide) rfl (by decide) ?_
      refine q_icc1 (z := 15) rfl rfl rfl rfl rfl ?_
      refine q_goto rfl ?_
      refine q_iload_n rfl rfl rfl ?_
      refine q_bipush rfl rfl ?_
      refine q_icge rfl rfl (fun c44 => absurd c44 (by decide)) (fun c44 => ?_)
      refine q_aload_n rfl rfl rfl ?_
      refine q_getf rfl rfl (by decide) rfl rfl ?_
      refine q_iload_n rfl rfl rfl ?_
      refine q_iconst rfl rfl ?_
      refine q_iast rfl rfl (by decide) rfl (by decide) ?_
      refine q_icc1 (z := 16) rfl rfl rfl rfl rfl ?_
      refine q_goto rfl ?_
      refine q_iload_n rfl rfl rfl ?_
      refine q_bipush rfl rfl ?_
      refine q_icge rfl rfl (fun c45 => absurd c45 (by decide)) (fun c45 => ?_)
      refine q_aload_n rfl rfl rfl ?_
      refine q_getf rfl rfl (by decide) rfl rfl ?_
      refine q_iload_n rfl rfl rfl ?_
      refine q_iconst rfl rfl ?_
      refine q_iast rfl rfl (by decide) rfl (by decide) ?_
      refine q_icc1 (z := 17) rfl rfl rfl rfl rfl ?_
      refine q_goto rfl ?_
      refine q_iload_n rfl rfl rfl ?_
      refine q_bipush rfl rfl ?_
      refine q_icge rfl rfl (fun c46 => absurd c46 (by decide)) (fun c46 => ?_)
      refine q_aload_n rfl rfl rfl ?_
      refine q_getf rfl rfl (by decide) rfl rfl ?_
      refine q_iload_n rfl rfl rfl ?_
      refine q_iconst rfl rfl ?_
      refine q_iast rfl rfl (by decide) rfl (by decide) ?_
      refine q_icc1 (z := 18) rfl rfl rfl rfl rfl ?_
      refine q_goto rfl ?_
      refine q_iload_n rfl rfl rfl ?_
      refine q_bipush rfl rfl ?_
      refine q_icge rfl rfl (fun c47 => absurd c47 (by decide)) (fun c47 => ?_)
      refine q_aload_n rfl rfl rfl ?_
      refine q_getf rfl rfl (by decide) rfl rfl ?_
      refine q_iload_n rfl rfl rfl ?_
      refine q_iconst rfl rfl ?_
      refine q_iast rfl rfl (by decide) rfl (by decide) ?_
      refine q_icc1 (z := 19) rfl rfl rfl rfl rfl ?_
      refine q_goto rfl ?_
      refine q_iload_n rfl rfl rfl ?_
      refine q_bipush rfl rfl ?_
      refine q_icge rfl rfl (fun c48 => absurd c48 (by decide)) (fun c48 => ?_)
      refine q_aload_n rfl rfl rfl ?_
      refine q_getf rfl rfl (by decide) rfl rfl ?_
      refine q_iload_n rfl rfl rfl ?_
      refine q_iconst rfl rfl ?_
      refine q_iast rfl rfl (by decide) rfl (by decide) ?_
      refine q_icc1 (z := 20) rfl rfl rfl rfl rfl ?_
      refine q_goto rfl ?_
      refine q_iload_n rfl rfl rfl ?_
      refine q_bipush rfl rfl ?_
      refine q_icge rfl rfl (fun c49 => ?_) (fun c49 => absurd (by decide) c49)
      refine q_iconst rfl rfl ?_
      refine q_ist1n rfl rfl rfl rfl ?_
      refine q_iload_n rfl rfl rfl ?_
      refine q_aload_n rfl rfl rfl ?_
      refine q_getf rfl rfl (by decide) rfl rfl ?_
      refine q_icge rfl rfl (fun c50 => absurd c50 (i_le_f (i_nlt c1) rfl)) (fun c50 => ?_)
      refine q_aload_n rfl rfl rfl ?_
      refine q_getf rfl rfl (by decide) rfl rfl ?_
      refine q_iconst rfl rfl ?_
      refine q_iload_n rfl rfl rfl ?_
      refine q_imul rfl rfl (q_tn (z := 0) rfl ?_)
      refine q_aload_n rfl rfl rfl ?_
      refine q_getf rfl rfl (by decide) rfl rfl ?_
      refine q_aload_n rfl rfl rfl ?_
      refine q_getf rfl rfl (by decide) rfl rfl ?_
      refine q_iload_n rfl rfl rfl ?_
      refine q_iadd rfl rfl (q_tn (z := 0) rfl ?_)
      refine q_iald rfl rfl (by decide) rfl (by decide) (q_tn (z := 0) rfl ?_)
      refine q_ifne rfl rfl (fun c51 => ?_) (fun c51 => absurd (by decide) c51)
      refine q_bipush rfl rfl ?_
      refine q_goto rfl ?_
      refine q_iast rfl rfl (by decide) rfl (by decide) ?_
      refine q_icc1 (z := 1) rfl rfl rfl rfl rfl ?_
      refine q_goto rfl ?_
      refine q_iload_n rfl rfl rfl ?_
      refine q_aload_n rfl rfl rfl ?_
      refine q_getf rfl rfl (by decide) rfl rfl ?_
      refine q_icge rfl rfl (fun c52 => ?_) (fun c52 => ?_)
      · have e52 : x1 = 1 := Int32.le_antisymm c52 (i_nlt c1)
        subst e52
        refine q_iconst rfl rfl ?_
        refine q_ist1n rfl rfl rfl rfl ?_
        refine q_iload_n rfl rfl rfl ?_
        refine q_iconst rfl rfl ?_
        refine q_icge rfl rfl (fun c53 => absurd c53 (by decide)) (fun c53 => ?_)
        refine q_aload_n rfl rfl rfl ?_
        refine q_getf rfl rfl (by decide) rfl rfl ?_
        refine q_bipush rfl rfl ?_
        refine q_iload_n rfl rfl rfl ?_
        refine q_iadd rfl rfl (q_tn (z := 12) rfl ?_)
        refine q_aload_n rfl rfl rfl ?_
        refine q_getf rfl rfl (by decide) rfl rfl ?_
        refine q_iload_n rfl rfl rfl ?_
        refine q_iald rfl rfl (by decide) rfl (by decide) (q_tn (z := 0) rfl ?_)
        refine q_iast rfl rfl (by decide) rfl (by decide) ?_
        refine q_icc1 (z := 1) rfl rfl rfl rfl rfl ?_
        refine q_goto rfl ?_
        refine q_iload_n rfl rfl rfl ?_
        refine q_iconst rfl rfl ?_
        refine q_icge rfl rfl (fun c54 => absurd c54 (by decide)) (fun c54 => ?_)
        refine q_aload_n rfl rfl rfl ?_
        refine q_getf rfl rfl (by decide) rfl rfl ?_
        refine q_bipush rfl rfl ?_
        refine q_iload_n rfl rfl rfl ?_
        refine q_iadd rfl rfl (q_tn (z := 13) rfl ?_)
        refine q_aload_n rfl rfl rfl ?_
        refine q_getf rfl rfl (by decide) rfl rfl ?_
        refine q_iload_n rfl rfl rfl ?_
        refine q_iald rfl rfl (by decide) rfl (by decide) (q_tn (z := 0) rfl ?_)
        refine q_iast rfl rfl (by decide) rfl (by decide) ?_
        refine q_icc1 (z := 2) rfl rfl rfl rfl rfl ?_
        refine q_goto rfl ?_
        refine q_iload_n rfl rfl rfl ?_
        refine q_iconst rfl rfl ?_
        refine q_icge rfl rfl (fun c55 => absurd c55 (by decide)) (fun c55 => ?_)
        refine q_aload_n rfl rfl rfl ?_
        refine q_getf rfl rfl (by decide) rfl rfl ?_
        refine q_bipush rfl rfl ?_
        refine q_iload_n rfl rfl rfl ?_
        refine q_iadd rfl rfl (q_tn (z := 14) rfl ?_)
        refine q_aload_n rfl rfl rfl ?_
        refine q_getf rfl rfl (by decide) rfl rfl ?_
        refine q_iload_n rfl rfl rfl ?_
        refine q_iald rfl rfl (by decide) rfl (by decide) (q_tn (z := 0) rfl ?_)
        refine q_iast rfl rfl (by decide) rfl (by decide) ?_
        refine q_icc1 (z := 3) rfl rfl rfl rfl rfl ?_
        refine q_goto rfl ?_
        refine q_iload_n rfl rfl rfl ?_
        refine q_iconst rfl rfl ?_
        refine q_icge rfl rfl (fun c56 => absurd c56 (by decide)) (fun c56 => ?_)
        refine q_aload_n rfl rfl rfl ?_
        refine q_getf rfl rfl (by decide) rfl rfl ?_
        refine q_bipush rfl rfl ?_
        refine q_iload_n rfl rfl rfl ?_
        refine q_iadd rfl rfl (q_tn (z := 15) rfl ?_)
        refine q_aload_n rfl rfl rfl ?_
        refine q_getf rfl rfl (by decide) rfl rfl ?_
        refine q_iload_n rfl rfl rfl ?_
        refine q_iald rfl rfl (by decide) rfl (by decide) (q_tn (z := 0) rfl ?_)
        refine q_iast rfl rfl (by decide) rfl (by decide) ?_
        refine q_icc1 (z := 4) rfl rfl rfl rfl rfl ?_
        refine q_goto rfl ?_
        refine q_iload_n rfl rfl rfl ?_
        refine q_iconst rfl rfl ?_
        refine q_icge rfl rfl (fun c57 => ?_) (fun c57 => absurd (by decide) c57)
        refine q_ret rfl rfl ?_
        refine ⟨rfl, ?_⟩
        refine q_iconst rfl rfl ?_
        refine q_ist1n rfl rfl rfl rfl ?_
        refine q_iload_n rfl rfl rfl ?_
        refine q_bipush rfl rfl ?_
        refine q_icge rfl rfl (fun c58 => absurd c58 (by decide)) (fun c58 => ?_)
        refine q_aload_n rfl rfl rfl ?_
        refine q_getf rfl rfl (by decide) rfl rfl ?_
        refine q_iload_n rfl rfl rfl ?_
        refine q_aload_n rfl rfl rfl ?_
        refine q_getf rfl rfl (by decide) rfl rfl ?_
        refine q_iload_n rfl rfl rfl ?_
        refine q_iald rfl rfl (by decide) rfl (by decide) (q_tn (z := 10) rfl ?_)
        refine q_iast rfl rfl (by decide) (FW_54 S hW) (by decide) ?_
        refine q_icc1 (z := 1) rfl rfl rfl rfl rfl ?_
        refine q_goto rfl ?_
        refine q_iload_n rfl rfl rfl ?_
        refine q_bipush rfl rfl ?_
        refine q_icge rfl rfl (fun c59 => absurd c59 (by decide)) (fun c59 => ?_)
        refine q_aload_n rfl rfl rfl ?_
        refine q_getf rfl rfl (by decide) rfl rfl ?_
        refine q_iload_n rfl rfl rfl ?_
        refine q_aload_n rfl rfl rfl ?_
        refine q_getf rfl rfl (by decide) rfl rfl ?_
        refine q_iload_n rfl rfl rfl ?_
        refine q_iald rfl rfl (by decide) rfl (by decide) (q_tn (z := 0) rfl ?_)
        refine q_iast rfl rfl (by decide) rfl (by decide) ?_
        refine q_icc1 (z := 2) rfl rfl rfl rfl rfl ?_
        refine q_goto rfl ?_
        refine q_iload_n rfl rfl rfl ?_
        refine q_bipush rfl rfl ?_
        refine q_icge rfl rfl (fun c60 => absurd c60 (by decide)) (fun c60 => ?_)
        refine q_aload_n rfl rfl rfl ?_
        refine q_getf rfl rfl (by decide) rfl rfl ?_
        refine q_iload_n rfl rfl rfl ?_
        refine q_aload_n rfl rfl rfl ?_
        refine q_getf rfl rfl (by decide) rfl rfl ?_
        refine q_iload_n rfl rfl rfl ?_
        refine q_iald rfl rfl (by decide) rfl (by decide) (q_tn (z := 0) rfl ?_)
        refine q_iast rfl rfl (by decide) rfl (by decide) ?_
        refine q_icc1 (z := 3) rfl rfl rfl rfl rfl ?_
        refine q_goto rfl ?_
        refine q_iload_n rfl rfl rfl ?_
        refine q_bipush rfl rfl ?_
        refine q_icge rfl rfl (fun c61 => absurd c61 (by decide)) (fun c61 => ?_)
        refine q_aload_n rfl rfl rfl ?_
        refine q_getf rfl rfl (by decide) rfl rfl ?_
        refine q_iload_n rfl rfl rfl ?_
        refine q_aload_n rfl rfl rfl ?_
        refine q_getf rfl rfl (by decide) rfl rfl ?_
        refine q_iload_n rfl rfl rfl ?_
        refine q_iald rfl rfl (by decide) rfl (by decide) (q_tn (z := 0) rfl ?_)
        refine q_iast rfl rfl (by decide) rfl (by decide) ?_
        refine q_icc1 (z := 4) rfl rfl rfl rfl rfl ?_
        refine q_goto rfl ?_
        refine q_iload_n rfl rfl rfl ?_
        refine q_bipush rfl rfl ?_
        refine q_icge rfl rfl (fun c62 => absurd c62 (by decide)) (fun c62 => ?_)
        refine q_aload_n rfl rfl rfl ?_
        refine q_getf rfl rfl (by decide) rfl rfl ?_
        refine q_iload_n rfl rfl rfl ?_
        refine q_aload_n rfl rfl rfl ?_
        refine q_getf rfl rfl (by decide) rfl rfl ?_
        refine q_iload_n rfl rfl rfl ?_
        refine q_iald rfl rfl (by decide) rfl (by decide) (q_tn (z := 0) rfl ?_)
        refine q_iast rfl rfl (by decide) rfl (by decide) ?_
        refine q_icc1 (z := 5) rfl rfl rfl rfl rfl ?_
        refine q_goto rfl ?_
        refine q_iload_n rfl rfl rfl ?_
        refine q_bipush rfl rfl ?_
        refine q_icge rfl rfl (fun c63 => absurd c63 (by decide)) (fun c63 => ?_)
        refine q_aload_n rfl rfl rfl ?_
        refine q_getf rfl rfl (by decide) rfl rfl ?_
        refine q_iload_n rfl rfl rfl ?_
        refine q_aload_n rfl rfl rfl ?_
        refine q_getf rfl rfl (by decide) rfl rfl ?_
        refine q_iload_n rfl rfl rfl ?_
        refine q_iald rfl rfl (by decide) rfl (by decide) (q_tn (z := 0) rfl ?_)
        refine q_iast rfl rfl (by decide) rfl (by decide) ?_
        refine q_icc1 (z := 6) rfl rfl rfl rfl rfl ?_
        refine q_goto rfl ?_
        refine q_iload_n rfl rfl rfl ?_
        refine q_bipush rfl rfl ?_
        refine q_icge rfl rfl (fun c64 => absurd c64 (by decide)) (fun c64 => ?_)
        refine q_aload_n rfl rfl rfl ?_
        refine q_getf rfl rfl (by decide) rfl rfl ?_
        refine q_iload_n rfl rfl rfl ?_
        refine q_aload_n rfl rfl rfl ?_
        refine q_getf rfl rfl (by decide) rfl rfl ?_
        refine q_iload_n rfl rfl rfl ?_
        refine q_iald rfl rfl (by decide) rfl (by decide) (q_tn (z := 0) rfl ?_)
        refine q_iast rfl rfl (by decide) rfl (by decide) ?_
        refine q_icc1 (z := 7) rfl rfl rfl rfl rfl ?_
        refine q_goto rfl ?_
        refine q_iload_n rfl rfl rfl ?_
        refine q_bipush rfl rfl ?_
        refine q_icge rfl rfl (fun c65 => absurd c65 (by decide)) (fun c65 => ?_)
        refine q_aload_n rfl rfl rfl ?_
        refine q_getf rfl rfl (by decide) rfl rfl ?_
        refine q_iload_n rfl rfl rfl ?_
        refine q_aload_n rfl rfl rfl ?_
        refine q_getf rfl rfl (by decide) rfl rfl ?_
        refine q_iload_n rfl rfl rfl ?_
        refine q_iald rfl rfl (by decide) rfl (by decide) (q_tn (z := 0) rfl ?_)
        refine q_iast rfl rfl (by decide) rfl (by decide) ?_
        refine q_icc1 (z := 8) rfl rfl rfl rfl rfl ?_
        refine q_goto rfl ?_
        refine q_iload_n rfl rfl rfl ?_
        refine q_bipush rfl rfl ?_
        refine q_icge rfl rfl (fun c66 => absurd c66 (by decide)) (fun c66 => ?_)
        refine q_aload_n rfl rfl rfl ?_
        refine q_getf rfl rfl (by decide) rfl rfl ?_
        refine q_iload_n rfl rfl rfl ?_
        refine q_aload_n rfl rfl rfl ?_
        refine q_getf rfl rfl (by decide) rfl rfl ?_
        refine q_iload_n rfl rfl rfl ?_
        refine q_iald rfl rfl (by decide) rfl (by decide) (q_tn (z := 0) rfl ?_)
        refine q_iast rfl rfl (by decide) rfl (by decide) ?_
        refine q_icc1 (z := 9) rfl rfl rfl rfl rfl ?_
        refine q_goto rfl ?_
        refine q_iload_n rfl rfl rfl ?_
        refine q_bipush rfl rfl ?_
        refine q_icge rfl rfl (fun c67 => absurd c67 (by decide)) (fun c67 => ?_)
        refine q_aload_n rfl rfl rfl ?_
        refine q_getf rfl rfl (by decide) rfl rfl ?_
        refine q_iload_n rfl rfl rfl ?_
        refine q_aload_n rfl rfl rfl ?_
        refine q_getf rfl rfl (by decide) rfl rfl ?_
        refine q_iload_n rfl rfl rfl ?_
        refine q_iald rfl rfl (by decide) rfl (by decide) (q_tn (z := 0) rfl ?_)
        refine q_iast rfl rfl (by decide) rfl (by decide) ?_
        refine q_icc1 (z := 10) rfl rfl rfl rfl rfl ?_
        refine q_goto rfl ?_
        refine q_iload_n rfl rfl rfl ?_
        refine q_bipush rfl rfl ?_
        refine q_icge rfl rfl (fun c68 => absurd c68 (by decide)) (fun c68 => ?_)
        refine q_aload_n rfl rfl rfl ?_
        refine q_getf rfl rfl (by decide) rfl rfl ?_
        refine q_iload_n rfl rfl rfl ?_
        refine q_aload_n rfl rfl rfl ?_
        refine q_getf rfl rfl (by decide) rfl rfl ?_
        refine q_iload_n rfl rfl rfl ?_
        refine q_iald rfl rfl (by decide) rfl (by decide) (q_tn (z := 0) rfl ?_)
        refine q_iast rfl rfl (by decide) rfl (by decide) ?_
        refine q_icc1 (z := 11) rfl rfl rfl rfl rfl ?_
        refine q_goto rfl ?_
        refine q_iload_n rfl rfl rfl ?_
        refine q_bipush rfl rfl ?_
        refine q_icge rfl rfl (fun c69 => absurd c69 (by decide)) (fun c69 => ?_)
        refine q_aload_n rfl rfl rfl ?_
        refine q_getf rfl rfl (by decide) rfl rfl ?_
        refine q_iload_n rfl rfl rfl ?_
        refine q_aload_n rfl rfl rfl ?_
        refine q_getf rfl rfl (by decide) rfl rfl ?_
        refine q_iload_n rfl rfl rfl ?_
        refine q_iald rfl rfl (by decide) rfl (by decide) (q_tn (z := 0) rfl ?_)
        refine q_iast rfl rfl (by decide) rfl (by decide) ?_
        refine q_icc1 (z := 12) rfl rfl rfl rfl rfl ?_
        refine q_goto rfl ?_
        refine q_iload_n rfl rfl rfl ?_
        refine q_bipush rfl rfl ?_
        refine q_icge rfl rfl (fun c70 => absurd c70 (by decide)) (fun c70 => ?_)
        refine q_aload_n rfl rfl rfl ?_
        refine q_getf rfl rfl (by decide) rfl rfl ?_
        refine q_iload_n rfl rfl rfl ?_
        refine q_aload_n rfl rfl rfl ?_
        refine q_getf rfl rfl (by decide) rfl rfl ?_
        refine q_iload_n rfl rfl rfl ?_
        refine q_iald rfl rfl (by decide) rfl (by decide) (q_tn (z := 0) rfl ?_)
        refine q_iast rfl rfl (by decide) rfl (by decide) ?_
        refine q_icc1 (z := 13) rfl rfl rfl rfl rfl ?_
        refine q_goto rfl ?_
        refine q_iload_n rfl rfl rfl ?_
        refine q_bipush rfl rfl ?_
        refine q_icge rfl rfl (fun c71 => absurd c71 (by decide)) (fun c71 => ?_)
        refine q_aload_n rfl rfl rfl ?_
        refine q_getf rfl rfl (by decide) rfl rfl ?_
        refine q_iload_n rfl rfl rfl ?_
        refine q_aload_n rfl rfl rfl ?_
        refine q_getf rfl rfl (by decide) rfl rfl ?_
        refine q_iload_n rfl rfl rfl ?_
        refine q_iald rfl rfl (by decide) rfl (by decide) (q_tn (z := 0) rfl ?_)
        refine q_iast rfl rfl (by decide) rfl (by decide) ?_
        refine q_icc1 (z := 14) rfl rfl rfl rfl rfl ?_
        refine q_goto rfl ?_
        refine q_iload_n rfl rfl rfl ?_
        refine q_bipush rfl rfl ?_
        refine q_icge rfl rfl (fun c72 => absurd c72 (by decide)) (fun c72 => ?_)
        refine q_aload_n rfl rfl rfl ?_
        refine q_getf rfl rfl (by decide) rfl rfl ?_
        refine q_iload_n rfl rfl rfl ?_
        refine q_aload_n rfl rfl rfl ?_
        refine q_getf rfl rfl (by decide) rfl rfl ?_
        refine q_iload_n rfl rfl rfl ?_
        refine q_iald rfl rfl (by decide) rfl (by decide) (q_tn (z := 0) rfl ?_)
        refine q_iast rfl rfl (by decide) rfl (by decide) ?_
        refine q_icc1 (z := 15) rfl rfl rfl rfl rfl ?_
        refine q_goto rfl ?_
        refine q_iload_n rfl rfl rfl ?_
        refine q_bipush rfl rfl ?_
        refine q_icge rfl rfl (fun c73 => absurd c73 (by decide)) (fun c73 => ?_)
        refine q_aload_n rfl rfl rfl ?_
        refine q_getf rfl rfl (by decide) rfl rfl ?_
        refine q_iload_n rfl rfl rfl ?_
        refine q_aload_n rfl rfl rfl ?_
        refine q_getf rfl rfl (by decide) rfl rfl ?_
        refine q_iload_n rfl rfl rfl ?_
        refine q_iald rfl rfl (by decide) rfl (by decide) (q_tn (z := 0) rfl ?_)
        refine q_iast rfl rfl (by decide) rfl (by decide) ?_
        refine q_icc1 (z := 16) rfl rfl rfl rfl rfl ?_
        refine q_goto rfl ?_
        refine q_iload_n rfl rfl rfl ?_
        refine q_bipush rfl rfl ?_
        refine q_icge rfl rfl (fun c74 => absurd c74 (by decide)) (fun c74 => ?_)
        refine q_aload_n rfl rfl rfl ?_
        refine q_getf rfl rfl (by decide) rfl rfl ?_
        refine q_iload_n rfl rfl rfl ?_
        refine q_aload_n rfl rfl rfl ?_
        refine q_getf rfl rfl (by decide) rfl rfl ?_
        refine q_iload_n rfl rfl rfl ?_
        refine q_iald rfl rfl (by decide) rfl (by decide) (q_tn (z := 0) rfl ?_)
        refine q_iast rfl rfl (by decide) rfl (by decide) ?_
        refine q_icc1 (z := 17) rfl rfl rfl rfl rfl ?_
        refine q_goto rfl ?_
        refine q_iload_n rfl rfl rfl ?_
        refine q_bipush rfl rfl ?_
        refine q_icge rfl rfl (fun c75 => absurd c75 (by decide)) (fun c75 => ?_)
        refine q_aload_n rfl rfl rfl ?_
        refine q_getf rfl rfl (by decide) rfl rfl ?_
        refine q_iload_n rfl rfl rfl ?_
        refine q_aload_n rfl rfl rfl ?_
        refine q_getf rfl rfl (by decide) rfl rfl ?_
        refine q_iload_n rfl rfl rfl ?_
        refine q_iald rfl rfl (by decide) rfl (by decide) (q_tn (z := 0) rfl ?_)
        refine q_iast rfl rfl (by decide) rfl (by decide) ?_
        refine q_icc1 (z := 18) rfl rfl rfl rfl rfl ?_
        refine q_goto rfl ?_
        refine q_iload_n rfl rfl rfl ?_
        refine q_bipush rfl rfl ?_
        refine q_icge rfl rfl (fun c76 => absurd c76 (by decide)) (fun c76 => ?_)
        refine q_aload_n rfl rfl rfl ?_
        refine q_getf rfl rfl (by decide) rfl rfl ?_
        refine q_iload_n rfl rfl rfl ?_
        refine q_aload_n rfl rfl rfl ?_
        refine q_getf rfl rfl (by decide) rfl rfl ?_
        refine q_iload_n rfl rfl rfl ?_
        refine q_iald rfl rfl (by decide) rfl (by decide) (q_tn (z := 0) rfl ?_)
        refine q_iast rfl rfl (by decide) rfl (by decide) ?_
        refine q_icc1 (z := 19) rfl rfl rfl rfl rfl ?_
        refine q_goto rfl ?_
        refine q_iload_n rfl rfl rfl ?_
        refine q_bipush rfl rfl ?_
        refine q_icge rfl rfl (fun c77 => absurd c77 (by decide)) (fun c77 => ?_)
        refine q_aload_n rfl rfl rfl ?_
        refine q_getf rfl rfl (by decide) rfl rfl ?_
        refine q_iload_n rfl rfl rfl ?_
        refine q_aload_n rfl rfl rfl ?_
        refine q_getf rfl rfl (by decide) rfl rfl ?_
        refine q_iload_n rfl rfl rfl ?_
        refine q_iald rfl rfl (by decide) rfl (by decide) (q_tn (z := 0) rfl ?_)
        refine q_iast rfl rfl (by decide) rfl (by decide) ?_
        refine q_icc1 (z := 20) rfl rfl rfl rfl rfl ?_
        refine q_goto rfl ?_
        refine q_iload_n rfl rfl rfl ?_
        refine q_bipush rfl rfl ?_
        refine q_icge rfl rfl (fun c78 => ?_) (fun c78 => absurd (by decide) c78)
        refine q_ret rfl rfl ?_
        refine ⟨rfl, ?_⟩
        refine q_iconst rfl rfl ?_
        refine q_ist1n rfl rfl rfl rfl ?_
        refine q_iload_n rfl rfl rfl ?_
        refine q_bipush rfl rfl ?_
        refine q_icge rfl rfl (fun c79 => absurd c79 (by decide)) (fun c79 => ?_)
        refine q_aload_n rfl rfl rfl ?_
        refine q_getf rfl rfl (by decide) rfl rfl ?_
        refine q_iload_n rfl rfl rfl ?_
        refine q_bipush rfl rfl ?_
        refine q_iast rfl rfl (by decide) (FW_74 S hW) (by decide) ?_
        refine q_icc1 (z := 1) rfl rfl rfl rfl rfl ?_
        refine q_goto rfl ?_
        refine q_iload_n rfl rfl rfl ?_
        refine q_bipush rfl rfl ?_
        refine q_icge rfl rfl (fun c80 => absurd c80 (by decide)) (fun c80 => ?_)
        refine q_aload_n rfl rfl rfl ?_
        refine q_getf rfl rfl (by decide) rfl rfl ?_
        refine q_iload_n rfl rfl rfl ?_
        refine q_bipush rfl rfl ?_
        refine q_iast rfl rfl (by decide) rfl (by decide) ?_
        refine q_icc1 (z := 2) rfl rfl rfl rfl rfl ?_
        refine q_goto rfl ?_
        refine q_iload_n rfl rfl rfl ?_
        refine q_bipush rfl rfl ?_
        refine q_icge rfl rfl (fun c81 => absurd c81 (by decide)) (fun c81 => ?_)
        refine q_aload_n rfl rfl rfl ?_
        refine q_getf rfl rfl (by decide) rfl rfl ?_
        refine q_iload_n rfl rfl rfl ?_
        refine q_bipush rfl rfl ?_
        refine q_iast rfl rfl (by decide) rfl (by decide) ?_
        refine q_icc1 (z := 3) rfl rfl rfl rfl rfl ?_
        refine q_goto rfl ?_
        refine q_iload_n rfl rfl rfl ?_
        refine q_bipush rfl rfl ?_
        refine q_icge rfl rfl (fun c82 => absurd c82 (by decide)) (fun c82 => ?_)
        refine q_aload_n rfl rfl rfl ?_
        refine q_getf rfl rfl (by decide) rfl rfl ?_
        refine q_iload_n rfl rfl rfl ?_
        refine q_bipush rfl rfl ?_
        refine q_iast rfl rfl (by decide) rfl (by decide) ?_
        refine q_icc1 (z := 4) rfl rfl rfl rfl rfl ?_
        refine q_goto rfl ?_
        refine q_iload_n rfl rfl rfl ?_
        refine q_bipush rfl rfl ?_
        refine q_icge rfl rfl (fun c83 => absurd c83 (by decide)) (fun c83 => ?_)
        refine q_aload_n rfl rfl rfl ?_
        refine q_getf rfl rfl (by decide) rfl rfl ?_
        refine q_iload_n rfl rfl rfl ?_
        refine q_bipush rfl rfl ?_
        refine q_iast rfl rfl (by decide) rfl (by decide) ?_
        refine q_icc1 (z := 5) rfl rfl rfl rfl rfl ?_
        refine q_goto rfl ?_
        refine q_iload_n rfl rfl rfl ?_
        refine q_bipush rfl rfl ?_
        refine q_icge rfl rfl (fun c84 => absurd c84 (by decide)) (fun c84 => ?_)
        refine q_aload_n rfl rfl rfl ?_
        refine q_getf rfl rfl (by decide) rfl rfl ?_
        refine q_iload_n rfl rfl rfl ?_
        refine q_bipush rfl rfl ?_
        refine q_iast rfl rfl (by decide) rfl (by decide) ?_
        refine q_icc1 (z := 6) rfl rfl rfl rfl rfl ?_
        refine q_goto rfl ?_
        refine q_iload_n rfl rfl rfl ?_
        refine q_bipush rfl rfl ?_
        refine q_icge rfl rfl (fun c85 => absurd c85 (by decide)) (fun c85 => ?_)
        refine q_aload_n rfl rfl rfl ?_
        refine q_getf rfl rfl (by decide) rfl rfl ?_
        refine q_iload_n rfl rfl rfl ?_
        refine q_bipush rfl rfl ?_
        refine q_iast rfl rfl (by decide) rfl (by decide) ?_
        refine q_icc1 (z := 7) rfl rfl rfl rfl rfl ?_
        refine q_goto rfl ?_
        refine q_iload_n rfl rfl rfl ?_
        refine q_bipush rfl rfl ?_
        refine q_icge rfl rfl (fun c86 => absurd c86 (by decide)) (fun c86 => ?_)
        refine q_aload_n rfl rfl rfl ?_
        refine q_getf rfl rfl (by decide) rfl rfl ?_
        refine q_iload_n rfl rfl rfl ?_
        refine q_bipush rfl rfl ?_
        refine q_iast rfl rfl (by decide) rfl (by decide) ?_
        refine q_icc1 (z := 8) rfl rfl rfl rfl rfl ?_
        refine q_goto rfl ?_
        refine q_iload_n rfl rfl rfl ?_
        refine q_bipush rfl rfl ?_
        refine q_icge rfl rfl (fun c87 => absurd c87 (by decide)) (fun c87 => ?_)
        refine q_aload_n rfl rfl rfl ?_
        refine q_getf rfl rfl (by decide) rfl rfl ?_
        refine q_iload_n rfl rfl rfl ?_
        refine q_bipush rfl rfl ?_
        refine q_iast rfl rfl (by decide) rfl (by decide) ?_
        refine q_icc1 (z := 9) rfl rfl rfl rfl rfl ?_
        refine q_goto rfl ?_
        refine q_iload_n rfl rfl rfl ?_
        refine q_bipush rfl rfl ?_
        refine q_icge rfl rfl (fun c88 => absurd c88 (by decide)) (fun c88 => ?_)
        refine q_aload_n rfl rfl rfl ?_
        refine q_getf rfl rfl (by decide) rfl rfl ?_
        refine q_iload_n rfl rfl rfl ?_
        refine q_bipush rfl rfl ?_
        refine q_iast rfl rfl (by decide) rfl (by decide) ?_
        refine q_icc1 (z := 10) rfl rfl rfl rfl rfl ?_
        refine q_goto rfl ?_
        refine q_iload_n rfl rfl rfl ?_
        refine q_bipush rfl rfl ?_
        refine q_icge rfl rfl (fun c89 => absurd c89 (by decide)) (fun c89 => ?_)
        refine q_aload_n rfl rfl rfl ?_
        refine q_getf rfl rfl (by decide) rfl rfl ?_
        refine q_iload_n rfl rfl rfl ?_
        refine q_bipush rfl rfl ?_
        refine q_iast rfl rfl (by decide) rfl (by decide) ?_
        refine q_icc1 (z := 11) rfl rfl rfl rfl rfl ?_
        refine q_goto rfl ?_
        refine q_iload_n rfl rfl rfl ?_
        refine q_bipush rfl rfl ?_
        refine q_icge rfl rfl (fun c90 => absurd c90 (by decide)) (fun c90 => ?_)
        refine q_aload_n rfl rfl rfl ?_
        refine q_getf rfl rfl (by decide) rfl rfl ?_
        refine q_iload_n rfl rfl rfl ?_
        refine q_bipush rfl rfl ?_
        refine q_iast rfl rfl (by decide) rfl (by decide) ?_
        refine q_icc1 (z := 12) rfl rfl rfl rfl rfl ?_
        refine q_goto rfl ?_
        refine q_iload_n rfl rfl rfl ?_
        refine q_bipush rfl rfl ?_
        refine q_icge rfl rfl (fun c91 => absurd c91 (by decide)) (fun c91 => ?_)
        refine q_aload_n rfl rfl rfl ?_
        refine q_getf rfl rfl (by decide) rfl rfl ?_
        refine q_iload_n rfl rfl rfl ?_
        refine q_bipush rfl rfl ?_
        refine q_iast rfl rfl (by decide) rfl (by decide) ?_
        refine q_icc1 (z := 13) rfl rfl rfl rfl rfl ?_
        refine q_goto rfl ?_
        refine q_iload_n rfl rfl rfl ?_
        refine q_bipush rfl rfl ?_
        refine q_icge rfl rfl (fun c92 => absurd c92 (by decide)) (fun c92 => ?_)
        refine q_aload_n rfl rfl rfl ?_
        refine q_getf rfl rfl (by decide) rfl rfl ?_
        refine q_iload_n rfl rfl rfl ?_
        refine q_bipush rfl rfl ?_
        refine q_iast rfl rfl (by decide) rfl (by decide) ?_
        refine q_icc1 (z := 14) rfl rfl rfl rfl rfl ?_
        refine q_goto rfl ?_
        refine q_iload_n rfl rfl rfl ?_
        refine q_bipush rfl rfl ?_
        refine q_icge rfl rfl (fun c93 => absurd c93 (by decide)) (fun c93 => ?_)
        refine q_aload_n rfl rfl rfl ?_
        refine q_getf rfl rfl (by decide) rfl rfl ?_
        refine q_iload_n rfl rfl rfl ?_
        refine q_bipush rfl rfl ?_
        refine q_iast rfl rfl (by decide) rfl (by decide) ?_
        refine q_icc1 (z := 15) rfl rfl rfl rfl rfl ?_
        refine q_goto rfl ?_
        refine q_iload_n rfl rfl rfl ?_
        refine q_bipush rfl rfl ?_
        refine q_icge rfl rfl (fun c94 => absurd c94 (by decide)) (fun c94 => ?_)
        refine q_aload_n rfl rfl rfl ?_
        refine q_getf rfl rfl (by decide) rfl rfl ?_
        refine q_iload_n rfl rfl rfl ?_
        refine q_bipush rfl rfl ?_
        refine q_iast rfl rfl (by decide) rfl (by decide) ?_
        refine q_icc1 (z := 16) rfl rfl rfl rfl rfl ?_
        refine q_goto rfl ?_
        refine q_iload_n rfl rfl rfl ?_
        refine q_bipush rfl rfl ?_
        refine q_icge rfl rfl (fun c95 => absurd c95 (by decide)) (fun c95 => ?_)
        refine q_aload_n rfl rfl rfl ?_
        refine q_getf rfl rfl (by decide) rfl rfl ?_
        refine q_iload_n rfl rfl rfl ?_
        refine q_bipush rfl rfl ?_
        refine q_iast rfl rfl (by decide) rfl (by decide) ?_
        refine q_icc1 (z := 17) rfl rfl rfl rfl rfl ?_
        refine q_goto rfl ?_
        refine q_iload_n rfl rfl rfl ?_
        refine q_bipush rfl rfl ?_
        refine q_icge rfl rfl (fun c96 => absurd c96 (by decide)) (fun c96 => ?_)
        refine q_aload_n rfl rfl rfl ?_
        refine q_getf rfl rfl (by decide) rfl rfl ?_
        refine q_iload_n rfl rfl rfl ?_
        refine q_bipush rfl rfl ?_
        refine q_iast rfl rfl (by decide) rfl (by decide) ?_
        refine q_icc1 (z := 18) rfl rfl rfl rfl rfl ?_
        refine q_goto rfl ?_
        refine q_iload_n rfl rfl rfl ?_
        refine q_bipush rfl rfl ?_
        refine q_icge rfl rfl (fun c97 => absurd c97 (by decide)) (fun c97 => ?_)
        refine q_aload_n rfl rfl rfl ?_
        refine q_getf rfl rfl (by decide) rfl rfl ?_
        refine q_iload_n rfl rfl rfl ?_
        refine q_bipush rfl rfl ?_
        refine q_iast rfl rfl (by decide) rfl (by decide) ?_
        refine q_icc1 (z := 19) rfl rfl rfl rfl rfl ?_
        refine q_goto rfl ?_
        refine q_iload_n rfl rfl rfl ?_
        refine q_bipush rfl rfl ?_
        refine q_icge rfl rfl (fun c98 => absurd c98 (by decide)) (fun c98 => ?_)
        refine q_aload_n rfl rfl rfl ?_
        refine q_getf rfl rfl (by decide) rfl rfl ?_
        refine q_iload_n rfl rfl rfl ?_
        refine q_bipush rfl rfl ?_
        refine q_iast rfl rfl (by decide) rfl (by decide) ?_
        refine q_icc1 (z := 20) rfl rfl rfl rfl rfl ?_
        refine q_goto rfl ?_
        refine q_iload_n rfl rfl rfl ?_
        refine q_bipush rfl rfl ?_
        refine q_icge rfl rfl (fun c99 => absurd c99 (by decide)) (fun c99 => ?_)
        refine q_aload_n rfl rfl rfl ?_
        refine q_getf rfl rfl (by decide) rfl rfl ?_
        refine q_iload_n rfl rfl rfl ?_
        refine q_bipush rfl rfl ?_
        refine q_iast rfl rfl (by decide) rfl (by decide) ?_
        refine q_icc1 (z := 21) rfl rfl rfl rfl rfl ?_
        refine q_goto rfl ?_
        refine q_iload_n rfl rfl rfl ?_
        refine q_bipush rfl rfl ?_
        refine q_icge rfl rfl (fun c100 => absurd c100 (by decide)) (fun c100 => ?_)
        refine q_aload_n rfl rfl rfl ?_
        refine q_getf rfl rfl (by decide) rfl rfl ?_
        refine q_iload_n rfl rfl rfl ?_
        refine q_bipush rfl rfl ?_
        refine q_iast rfl rfl (by decide) rfl (by decide) ?_
        refine q_icc1 (z := 22) rfl rfl rfl rfl rfl ?_
        refine q_goto rfl ?_
        refine q_iload_n rfl rfl rfl ?_
        refine q_bipush rfl rfl ?_
        refine q_icge rfl rfl (fun c101 => absurd c101 (by decide)) (fun c101 => ?_)
        refine q_aload_n rfl rfl rfl ?_
        refine q_getf rfl rfl (by decide) rfl rfl ?_
        refine q_iload_n rfl rfl rfl ?_
        refine q_bipush rfl rfl ?_
        refine q_iast rfl rfl (by decide) rfl (by decide) ?_
        refine q_icc1 (z := 23) rfl rfl rfl rfl rfl ?_
        refine q_goto rfl ?_
        refine q_iload_n rfl rfl rfl ?_
        refine q_bipush rfl rfl ?_
        refine q_icge rfl rfl (fun c102 => absurd c102 (by decide)) (fun c102 => ?_)
        refine q_aload_n rfl rfl rfl ?_
        refine q_getf rfl rfl (by decide) rfl rfl ?_
        refine q_iload_n rfl rfl rfl ?_
        refine q_bipush rfl rfl ?_
        refine q_iast rfl rfl (by decide) rfl (by decide) ?_
        refine q_icc1 (z := 24) rfl rfl rfl rfl rfl ?_
        refine q_goto rfl ?_
        refine q_iload_n rfl rfl rfl ?_
        refine q_bipush rfl rfl ?_
        refine q_icge rfl rfl (fun c103 => absurd c103 (by decide)) (fun c103 => ?_)
        refine q_aload_n rfl rfl rfl ?_
        refine q_getf rfl rfl (by decide) rfl rfl ?_
        refine q_iload_n rfl rfl rfl ?_
        refine q_bipush rfl rfl ?_
        refine q_iast rfl rfl (by decide) rfl (by decide) ?_
        refine q_icc1 (z := 25) rfl rfl rfl rfl rfl ?_
        refine q_goto rfl ?_
        refine q_iload_n rfl rfl rfl ?_
        refine q_bipush rfl rfl ?_
        refine q_icge rfl rfl (fun c104 => absurd c104 (by decide)) (fun c104 => ?_)
        refine q_aload_n rfl rfl rfl ?_
        refine q_getf rfl rfl (by decide) rfl rfl ?_
        refine q_iload_n rfl rfl rfl ?_
        refine q_bipush rfl rfl ?_
        refine q_iast rfl rfl (by decide) rfl (by decide) ?_
        refine q_icc1 (z := 26) rfl rfl rfl rfl rfl ?_
        refine q_goto rfl ?_
        refine q_iload_n rfl rfl rfl ?_
        refine q_bipush rfl rfl ?_
        refine q_icge rfl rfl (fun c105 => absurd c105 (by decide)) (fun c105 => ?_)
        refine q_aload_n rfl rfl rfl ?_
        refine q_getf rfl rfl (by decide) rfl rfl ?_
        refine q_iload_n rfl rfl rfl ?_
        refine q_bipush rfl rfl ?_
        refine q_iast rfl rfl (by decide) rfl (by decide) ?_
        refine q_icc1 (z := 27) rfl rfl rfl rfl rfl ?_
        refine q_goto rfl ?_
        refine q_iload_n rfl rfl rfl ?_
        refine q_bipush rfl rfl ?_
        refine q_icge rfl rfl (fun c106 => absurd c106 (by decide)) (fun c106 => ?_)
        refine q_aload_n rfl rfl rfl ?_
        refine q_getf rfl rfl (by decide) rfl rfl ?_
        refine q_iload_n rfl rfl rfl ?_
        refine q_bipush rfl rfl ?_
        refine q_iast rfl rfl (by decide) rfl (by decide) ?_
        refine q_icc1 (z := 28) rfl rfl rfl rfl rfl ?_
        refine q_goto rfl ?_
        refine q_iload_n rfl rfl rfl ?_
        refine q_bipush rfl rfl ?_
        refine q_icge rfl rfl (fun c107 => absurd c107 (by decide)) (fun c107 => ?_)
        refine q_aload_n rfl rfl rfl ?_
        refine q_getf rfl rfl (by decide) rfl rfl ?_
        refine q_iload_n rfl rfl rfl ?_
        refine q_bipush rfl rfl ?_
        refine q_iast rfl rfl (by decide) rfl (by decide) ?_
        refine q_icc1 (z := 29) rfl rfl rfl rfl rfl ?_
        refine q_goto rfl ?_
        refine q_iload_n rfl rfl rfl ?_
        refine q_bipush rfl rfl ?_
        refine q_icge rfl rfl (fun c108 => absurd c108 (by decide)) (fun c108 => ?_)
        refine q_aload_n rfl rfl rfl ?_
        refine q_getf rfl rfl (by decide) rfl rfl ?_
        refine q_iload_n rfl rfl rfl ?_
        refine q_bipush rfl rfl ?_
        refine q_iast rfl rfl (by decide) rfl (by decide) ?_
        refine q_icc1 (z := 30) rfl rfl rfl rfl rfl ?_
        refine q_goto rfl ?_
        refine q_iload_n rfl rfl rfl ?_
        refine q_bipush rfl rfl ?_
        refine q_icge rfl rfl (fun c109 => absurd c109 (by decide)) (fun c109 => ?_)
        refine q_aload_n rfl rfl rfl ?_
        refine q_getf rfl rfl (by decide) rfl rfl ?_
        refine q_iload_n rfl rfl rfl ?_
        refine q_bipush rfl rfl ?_
        refine q_iast rfl rfl (by decide) rfl (by decide) ?_
        refine q_icc1 (z := 31) rfl rfl rfl rfl rfl ?_
        refine q_goto rfl ?_
        refine q_iload_n rfl rfl rfl ?_
        refine q_bipush rfl rfl ?_
        refine q_icge rfl rfl (fun c110 => absurd c110 (by decide)) (fun c110 => ?_)
        refine q_aload_n rfl rfl rfl ?_
        refine q_getf rfl rfl (by decide) rfl rfl ?_
        refine q_iload_n rfl rfl rfl ?_
        refine q_bipush rfl rfl ?_
        refine q_iast rfl rfl (by decide) rfl (by decide) ?_
        refine q_icc1 (z := 32) rfl rfl rfl rfl rfl ?_
        refine q_goto rfl ?_
        refine q_iload_n rfl rfl rfl ?_
        refine q_bipush rfl rfl ?_
        refine q_icge rfl rfl (fun c111 => absurd c111 (by decide)) (fun c111 => ?_)
        refine q_aload_n rfl rfl rfl ?_
        refine q_getf rfl rfl (by decide) rfl rfl ?_
        refine q_iload_n rfl rfl rfl ?_
        refine q_bipush rfl rfl ?_
        refine q_iast rfl rfl (by decide) rfl (by decide) ?_
        refine q_icc1 (z := 33) rfl rfl rfl rfl rfl ?_
        refine q_goto rfl ?_
        refine q_iload_n rfl rfl rfl ?_
        refine q_bipush rfl rfl ?_
        refine q_icge rfl rfl (fun c112 => absurd c112 (by decide)) (fun c112 => ?_)
        refine q_aload_n rfl rfl rfl ?_
        refine q_getf rfl rfl (by decide) rfl rfl ?_
        refine q_iload_n rfl rfl rfl ?_
        refine q_bipush rfl rfl ?_
        refine q_iast rfl rfl (by decide) rfl (by decide) ?_
        refine q_icc1 (z := 34) rfl rfl rfl rfl rfl ?_
        refine q_goto rfl ?_
        refine q_iload_n rfl rfl rfl ?_
        refine q_bipush rfl rfl ?_
        refine q_icge rfl rfl (fun c113 => absurd c113 (by decide)) (fun c113 => ?_)
        refine q_aload_n rfl rfl rfl ?_
        refine q_getf rfl rfl (by decide) rfl rfl ?_
        refine q_iload_n rfl rfl rfl ?_
        refine q_bipush rfl rfl ?_
        refine q_iast rfl rfl (by decide) rfl (by decide) ?_
        refine q_icc1 (z := 35) rfl rfl rfl rfl rfl ?_
        refine q_goto rfl ?_
        refine q_iload_n rfl rfl rfl ?_
        refine q_bipush rfl rfl ?_
        refine q_icge rfl rfl (fun c114 => absurd c114 (by decide)) (fun c114 => ?_)
        refine q_aload_n rfl rfl rfl ?_
        refine q_getf rfl rfl (by decide) rfl rfl ?_
        refine q_iload_n rfl rfl rfl ?_
        refine q_bipush rfl rfl ?_
        refine q_iast rfl rfl (by decide) rfl (by decide) ?_
        refine q_icc1 (z := 36) rfl rfl rfl rfl rfl ?_
        refine q_goto rfl ?_
        refine q_iload_n rfl rfl rfl ?_
        refine q_bipush rfl rfl ?_
        refine q_icge rfl rfl (fun c115 => absurd c115 (by decide)) (fun c115 => ?_)
        refine q_aload_n rfl rfl rfl ?_
        refine q_getf rfl rfl (by decide) rfl rfl ?_
        refine q_iload_n rfl rfl rfl ?_
        refine q_bipush rfl rfl ?_
        refine q_iast rfl rfl (by decide) rfl (by decide) ?_
        refine q_icc1 (z := 37) rfl rfl rfl rfl rfl ?_
        refine q_goto rfl ?_
        refine q_iload_n rfl rfl rfl ?_
        refine q_bipush rfl rfl ?_
        refine q_icge rfl rfl (fun c116 => absurd c116 (by decide)) (fun c116 => ?_)
        refine q_aload_n rfl rfl rfl ?_
        refine q_getf rfl rfl (by decide) rfl rfl ?_
        refine q_iload_n rfl rfl rfl ?_
        refine q_bipush rfl rfl ?_
        refine q_iast rfl rfl (by decide) rfl (by decide) ?_
        refine q_icc1 (z := 38) rfl rfl rfl rfl rfl ?_
        refine q_goto rfl ?_
        refine q_iload_n rfl rfl rfl ?_
        refine q_bipush rfl rfl ?_
        refine q_icge rfl rfl (fun c117 => absurd c117 (by decide)) (fun c117 => ?_)
        refine q_aload_n rfl rfl rfl ?_
        refine q_getf rfl rfl (by decide) rfl rfl ?_
        refine q_iload_n rfl rfl rfl ?_
        refine q_bipush rfl rfl ?_
        refine q_iast rfl rfl (by decide) rfl (by decide) ?_
        refine q_icc1 (z := 39) rfl rfl rfl rfl rfl ?_
        refine q_goto rfl ?_
        refine q_iload_n rfl rfl rfl ?_
        refine q_bipush rfl rfl ?_
        refine q_icge rfl rfl (fun c118 => absurd c118 (by decide)) (fun c118 => ?_)
        refine q_aload_n rfl rfl rfl ?_
        refine q_getf rfl rfl (by decide) rfl rfl ?_
        refine q_iload_n rfl rfl rfl ?_
        refine q_bipush rfl rfl ?_
        refine q_iast rfl rfl (by decide) rfl (by decide) ?_
        refine q_icc1 (z := 40) rfl rfl rfl rfl rfl ?_
        refine q_goto rfl ?_
        refine q_iload_n rfl rfl rfl ?_
        refine q_bipush rfl rfl ?_
        refine q_icge rfl rfl (fun c119 => ?_) (fun c119 => absurd (by decide) c119)
        refine q_aload_n rfl rfl rfl ?_
        refine q_iconst rfl rfl ?_
        refine q_putf rfl rfl (by decide) rfl (Nat.lt_of_lt_of_le (Nat.lt_succ_self _) (Nat.le_of_ble_eq_true rfl)) rfl trivial ?_
        refine q_iconst rfl rfl ?_
        refine q_ist1n rfl rfl rfl rfl ?_
        refine q_iload_n rfl rfl rfl ?_
        refine q_iconst rfl rfl ?_
        refine q_icge rfl rfl (fun c120 => absurd c120 (by decide)) (fun c120 => ?_)
        refine q_aload_n rfl rfl rfl ?_
        refine q_getf rfl rfl (by decide) rfl rfl ?_
        refine q_iload_n rfl rfl rfl ?_
        refine q_iconst rfl rfl ?_
        refine q_iast rfl rfl (by decide) (FW_62 S hW) (by decide) ?_
        refine q_icc1 (z := 1) rfl rfl rfl rfl rfl ?_
        refine q_goto rfl ?_
        refine q_iload_n rfl rfl rfl ?_
        refine q_iconst rfl rfl ?_
        refine q_icge rfl rfl (fun c121 => absurd c121 (by decide)) (fun c121 => ?_)
        refine q_aload_n rfl rfl rfl ?_
        refine q_getf rfl rfl (by decide) rfl rfl ?_
        refine q_iload_n rfl rfl rfl ?_
        refine q_iconst rfl rfl ?_
        refine q_iast rfl rfl (by decide) rfl (by decide) ?_
        refine q_icc1 (z := 2) rfl rfl rfl rfl rfl ?_
        refine q_goto rfl ?_
        refine q_iload_n rfl rfl rfl ?_
        refine q_iconst rfl rfl ?_
        refine q_icge rfl rfl (fun c122 => absurd c122 (by decide)) (fun c122 => ?_)
        refine q_aload_n rfl rfl rfl ?_
        refine q_getf rfl rfl (by decide) rfl rfl ?_
        refine q_iload_n rfl rfl rfl ?_
        refine q_iconst rfl rfl ?_
        refine q_iast rfl rfl (by decide) rfl (by decide) ?_
        refine q_icc1 (z := 3) rfl rfl rfl rfl rfl ?_
        refine q_goto rfl ?_
        refine q_iload_n rfl rfl rfl ?_
        refine q_iconst rfl rfl ?_
        refine q_icge rfl rfl (fun c123 => absurd c123 (by decide)) (fun c123 => ?_)
        refine q_aload_n rfl rfl rfl ?_
        refine q_getf rfl rfl (by decide) rfl rfl ?_
        refine q_iload_n rfl rfl rfl ?_
        refine q_iconst rfl rfl ?_
        refine q_iast rfl rfl (by decide) rfl (by decide) ?_
        refine q_icc1 (z := 4) rfl rfl rfl rfl rfl ?_
        refine q_goto rfl ?_
        refine q_iload_n rfl rfl rfl ?_
        refine q_iconst rfl rfl ?_
        refine q_icge rfl rfl (fun c124 => absurd c124 (by decide)) (fun c124 => ?_)
        refine q_aload_n rfl rfl rfl ?_
        refine q_getf rfl rfl (by decide) rfl rfl ?_
        refine q_iload_n rfl rfl rfl ?_
        refine q_iconst rfl rfl ?_
        refine q_iast rfl rfl (by decide) rfl (by decide) ?_
        refine q_icc1 (z := 5) rfl rfl rfl rfl rfl ?_
        refine q_goto rfl ?_
        refine q_iload_n rfl rfl rfl ?_
        refine q_iconst rfl rfl ?_
        refine q_icge rfl rfl (fun c125 => ?_) (fun c125 => absurd (by decide) c125)
        refine q_aload_n rfl rfl rfl ?_
        refine q_iconst rfl rfl ?_
        refine q_putf rfl rfl (by decide) rfl (Nat.lt_of_lt_of_le (Nat.lt_succ_self _) (Nat.le_of_ble_eq_true rfl)) rfl rfl ?_
        refine q_ret rfl rfl ?_
        refine ⟨rfl, ?_⟩
        refine q_iload_n rfl rfl rfl ?_
        refine q_iret rfl rfl trivial ?_
        refine ⟨_, rfl, ?_⟩
        refine q_iceq rfl rfl (fun c126 => ?_) (fun c126 => absurd (by decide) c126)
        refine q_icc4 (z := 6) rfl rfl rfl rfl rfl ?_
        refine q_goto rfl ?_
        refine q_iload rfl rfl rfl ?_
        refine q_aload_nF rfl rfl rfl ?_
        refine q_alenX (x := 6) rfl rfl rfl ?_
        refine q_bipush rfl rfl ?_
        refine q_isub rfl rfl (q_tn (z := 0) rfl ?_)
        refine q_icgt rfl rfl (fun c127 => ?_) (fun c127 => absurd (by decide) c127)
        refine q_iconst rfl rfl ?_
        refine q_iret rfl rfl rfl ?_
        exact hK _ _
      · refine q_aload_n rfl rfl rfl ?_
        refine q_getf rfl rfl (by decide) rfl rfl ?_
        refine q_iconst rfl rfl ?_
        refine q_iload_n rfl rfl rfl ?_
        refine q_imul rfl rfl (q_tn (z := 4) rfl ?_)
        refine q_aload_n rfl rfl rfl ?_
        refine q_getf rfl rfl (by decide) rfl rfl ?_
        refine q_aload_n rfl rfl rfl ?_
        refine q_getf rfl rfl (by decide) rfl rfl ?_
        refine q_iload_n rfl rfl rfl ?_
        refine q_iadd rfl rfl (q_tn (z := 1) rfl ?_)
        refine q_iald rfl rfl (by decide) rfl (by decide) (q_tn (z := 0) rfl ?_)
        refine q_ifne rfl rfl (fun c128 => ?_) (fun c128 => absurd (by decide) c128)
        refine q_bipush rfl rfl ?_
        refine q_goto rfl ?_
        refine q_iast rfl rfl (by decide) rfl (by decide) ?_
        refine q_icc1 (z := 2) rfl rfl rfl rfl rfl ?_
        refine q_goto rfl ?_
        refine q_iload_n rfl rfl rfl ?_
        refine q_aload_n rfl rfl rfl ?_
        refine q_getf rfl rfl (by decide) rfl rfl ?_
        refine q_icge rfl rfl (fun c129 => ?_) (fun c129 => ?_)
        · have e129 : x1 = 2 := Int32.le_antisymm c129 (i_ltge (i_nle c52) (B := 2) rfl)
          subst e129
          refine q_iconst rfl rfl ?_
          refine q_ist1n rfl rfl rfl rfl ?_
          refine q_iload_n rfl rfl rfl ?_
          refine q_iconst rfl rfl ?_
          refine q_icge rfl rfl (fun c130 => absurd c130 (by decide)) (fun c130 => ?_)
          refine q_aload_n rfl rfl rfl ?_
          refine q_getf rfl rfl (by decide) rfl rfl ?_
          refine q_bipush rfl rfl ?_
          refine q_iload_n rfl rfl rfl ?_
          refine q_iadd rfl rfl (q_tn (z := 12) rfl ?_)
          refine q_aload_n rfl rfl rfl ?_
          refine q_getf rfl rfl (by decide) rfl rfl ?_
          refine q_iload_n rfl rfl rfl ?_
          refine q_iald rfl rfl (by decide) rfl (by decide) (q_tn (z := 0) rfl ?_)
          refine q_iast rfl rfl (by decide) rfl (by decide) ?_
          refine q_icc1 (z := 1) rfl rfl rfl rfl rfl ?_
          refine q_goto rfl ?_
          refine q_iload_n rfl rfl rfl ?_
          refine q_iconst rfl rfl ?_
          refine q_icge rfl rfl (fun c131 => absurd c131 (by decide)) (fun c131 => ?_)
          refine q_aload_n rfl rfl rfl ?_
          refine q_getf rfl rfl (by decide) rfl rfl ?_
          refine q_bipush rfl rfl ?_
          refine q_iload_n rfl rfl rfl ?_
          refine q_iadd rfl rfl (q_tn (z := 13) rfl ?_)
          refine q_aload_n rfl rfl rfl ?_
          refine q_getf rfl rfl (by decide) rfl rfl ?_
          refine q_iload_n rfl rfl rfl ?_
          refine q_iald rfl rfl (by decide) rfl (by decide) (q_tn (z := 0) rfl ?_)
          refine q_iast rfl rfl (by decide) rfl (by decide) ?_
          refine q_icc1 (z := 2) rfl rfl rfl rfl rfl ?_
          refine q_goto rfl ?_
          refine q_iload_n rfl rfl rfl ?_
          refine q_iconst rfl rfl ?_
          refine q_icge rfl rfl (fun c132 => absurd c132 (by decide)) (fun c132 => ?_)
          refine q_aload_n rfl rfl rfl ?_
          refine q_getf rfl rfl (by decide) rfl rfl ?_
          refine q_bipush rfl rfl ?_
          refine q_iload_n rfl rfl rfl ?_
          refine q_iadd rfl rfl (q_tn (z := 14) rfl ?_)
          refine q_aload_n rfl rfl rfl ?_
          refine q_getf rfl rfl (by decide) rfl rfl ?_
          refine q_iload_n rfl rfl rfl ?_
          refine q_iald rfl rfl (by decide) rfl (by decide) (q_tn (z := 0) rfl ?_)
          refine q_iast rfl rfl (by decide) rfl (by decide) ?_
          refine q_icc1 (z := 3) rfl rfl rfl rfl rfl ?_
          refine q_goto rfl ?_
          refine q_iload_n rfl rfl rfl ?_
          refine q_iconst rfl rfl ?_
          refine q_icge rfl rfl (fun c133 => absurd c133 (by decide)) (fun c133 => ?_)
          refine q_aload_n rfl rfl rfl ?_
          refine q_getf rfl rfl (by decide) rfl rfl ?_
          refine q_bipush rfl rfl ?_
          refine q_iload_n rfl rfl rfl ?_
          refine q_iadd rfl rfl (q_tn (z := 15) rfl ?_)
          refine q_aload_n rfl rfl rfl ?_
          refine q_getf rfl rfl (by decide) rfl rfl ?_
          refine q_iload_n rfl rfl rfl ?_
          refine q_iald rfl rfl (by decide) rfl (by decide) (q_tn (z := 0) rfl ?_)
          refine q_iast rfl rfl (by decide) rfl (by decide) ?_
          refine q_icc1 (z := 4) rfl rfl rfl rfl rfl ?_
          refine q_goto rfl ?_
          refine q_iload_n rfl rfl rfl ?_
          refine q_iconst rfl rfl ?_
          refine q_icge rfl rfl (fun c134 => ?_) (fun c134 => absurd (by decide) c134)
          refine q_ret rfl rfl ?_
          refine ⟨rfl, ?_⟩
          refine q_iconst rfl rfl ?_
          refine q_ist1n rfl rfl rfl rfl ?_
          refine q_iload_n rfl rfl rfl ?_
          refine q_bipush rfl rfl ?_
          refine q_icge rfl rfl (fun c135 => absurd c135 (by decide)) (fun c135 => ?_)
          refine q_aload_n rfl rfl rfl ?_
          refine q_getf rfl rfl (by decide) rfl rfl ?_
          refine q_iload_n rfl rfl rfl ?_
          refine q_aload_n rfl rfl rfl ?_
          refine q_getf rfl rfl (by decide) rfl rfl ?_
          refine q_iload_n rfl rfl rfl ?_
          refine q_iald rfl rfl (by decide) rfl (by decide) (q_tn (z := 10) rfl ?_)
          refine q_iast rfl rfl (by decide) (FW_54 S hW) (by decide) ?_
          refine q_icc1 (z := 1) rfl rfl rfl rfl rfl ?_
          refine q_goto rfl ?_
          refine q_iload_n rfl rfl rfl ?_
          refine q_bipush rfl rfl ?_
          refine q_icge rfl rfl (fun c136 => absurd c136 (by decide)) (fun c136 => ?_)
          refine q_aload_n rfl rfl rfl ?_
          refine q_getf rfl rfl (by decide) rfl rfl ?_
          refine q_iload_n rfl rfl rfl ?_
          refine q_aload_n rfl rfl rfl ?_
          refine q_getf rfl rfl (by decide) rfl rfl ?_
          refine q_iload_n rfl rfl rfl ?_
          refine q_iald rfl rfl (by decide) rfl (by decide) (q_tn (z := 0) rfl ?_)
          refine q_iast rfl rfl (by decide) rfl (by decide) ?_
          refine q_icc1 (z := 2) rfl rfl rfl rfl rfl ?_
          refine q_goto rfl ?_
          refine q_iload_n rfl rfl rfl ?_
          refine q_bipush rfl rfl ?_
          refine q_icge rfl rfl (fun c137 => absurd c137 (by decide)) (fun c137 => ?_)
          refine q_aload_n rfl rfl rfl ?_
          refine q_getf rfl rfl (by decide) rfl rfl ?_
          refine q_iload_n rfl rfl rfl ?_
          refine q_aload_n rfl rfl rfl ?_
          refine q_getf rfl rfl (by decide) rfl rfl ?_
          refine q_iload_n rfl rfl rfl ?_
          refine q_iald rfl rfl (by decide) rfl (by decide) (q_tn (z := 0) rfl ?_)
          refine q_iast rfl rfl (by decide) rfl (by decide) ?_
          refine q_icc1 (z := 3) rfl rfl rfl rfl rfl ?_
          refine q_goto rfl ?_
          refine q_iload_n rfl rfl rfl ?_
          refine q_bipush rfl rfl ?_
          refine q_icge rfl rfl (fun c138 => absurd c138 (by decide)) (fun c138 => ?_)
          refine q_aload_n rfl rfl rfl ?_
          refine q_getf rfl rfl (by decide) rfl rfl ?_
          refine q_iload_n rfl rfl rfl ?_
          refine q_aload_n rfl rfl rfl ?_
          refine q_getf rfl rfl (by decide) rfl rfl ?_
          refine q_iload_n rfl rfl rfl ?_
          refine q_iald rfl rfl (by decide) rfl (by decide) (q_tn (z := 0) rfl ?_)
          refine q_iast rfl rfl (by decide) rfl (by decide) ?_
          refine q_icc1 (z := 4) rfl rfl rfl rfl rfl ?_
          refine q_goto rfl ?_
          refine q_iload_n rfl rfl rfl ?_
          refine q_bipush rfl rfl ?_
          refine q_icge rfl rfl (fun c139 => absurd c139 (by decide)) (fun c139 => ?_)
          refine q_aload_n rfl rfl rfl ?_
          refine q_getf rfl rfl (by decide) rfl rfl ?_
          refine q_iload_n rfl rfl rfl ?_
          refine q_aload_n rfl rfl rfl ?_
          refine q_getf rfl rfl (by decide) rfl rfl ?_
          refine q_iload_n rfl rfl rfl ?_
          refine q_iald rfl rfl (by decide) rfl (by decide) (q_tn (z := 10) rfl ?_)
          refine q_iast rfl rfl (by decide) rfl (by decide) ?_
          refine q_icc1 (z := 5) rfl rfl rfl rfl rfl ?_
          refine q_goto rfl ?_
          refine q_iload_n rfl rfl rfl ?_
          refine q_bipush rfl rfl ?_
          refine q_icge rfl rfl (fun c140 => absurd c140 (by decide)) (fun c140 => ?_)
          refine q_aload_n rfl rfl rfl ?_
          refine q_getf rfl rfl (by decide) rfl rfl ?_
          refine q_iload_n rfl rfl rfl ?_
          refine q_aload_n rfl rfl rfl ?_
          refine q_getf rfl rfl (by decide) rfl rfl ?_
          refine q_iload_n rfl rfl rfl ?_
          refine q_iald rfl rfl (by decide) rfl (by decide) (q_tn (z := 0) rfl ?_)
          refine q_iast rfl rfl (by decide) rfl (by decide) ?_
          refine q_icc1 (z := 6) rfl rfl rfl rfl rfl ?_
          refine q_goto rfl ?_
          refine q_iload_n rfl rfl rfl ?_
          refine q_bipush rfl rfl ?_
          refine q_icge rfl rfl (fun c141 => absurd c141 (by decide)) (fun c141 => ?_)
          refine q_aload_n rfl rfl rfl ?_
          refine q_getf rfl rfl (by decide) rfl rfl ?_
          refine q_iload_n rfl rfl rfl ?_
          refine q_aload_n rfl rfl rfl ?_
          refine q_getf rfl rfl (by decide) rfl rfl ?_
          refine q_iload_n rfl rfl rfl ?_
          refine q_iald rfl rfl (by decide) rfl (by decide) (q_tn (z := 0) rfl ?_)
          refine q_iast rfl rfl (by decide) rfl (by decide) ?_
          refine q_icc1 (z := 7) rfl rfl rfl rfl rfl ?_
          refine q_goto rfl ?_
          refine q_iload_n rfl rfl rfl ?_
          refine q_bipush rfl rfl ?_
          refine q_icge rfl rfl (fun c142 => absurd c142 (by decide)) (fun c142 => ?_)
          refine q_aload_n rfl rfl rfl ?_
          refine q_getf rfl rfl (by decide) rfl rfl ?_
          refine q_iload_n rfl rfl rfl ?_
          refine q_aload_n rfl rfl rfl ?_
          refine q_getf rfl rfl (by decide) rfl rfl ?_
          refine q_iload_n rfl rfl rfl ?_
          refine q_iald rfl rfl (by decide) rfl (by decide) (q_tn (z := 0) rfl ?_)
          refine q_iast rfl rfl (by decide) rfl (by decide) ?_
          refine q_icc1 (z := 8) rfl rfl rfl rfl rfl ?_
          refine q_goto rfl ?_
          refine q_iload_n rfl rfl rfl ?_
          refine q_bipush rfl rfl ?_
          refine q_icge rfl rfl (fun c143 => absurd c143 (by decide)) (fun c143 => ?_)
          refine q_aload_n rfl rfl rfl ?_
          refine q_getf rfl rfl (by decide) rfl rfl ?_
          refine q_iload_n rfl rfl rfl ?_
          refine q_aload_n rfl rfl rfl ?_
          refine q_getf rfl rfl (by decide) rfl rfl ?_
          refine q_iload_n rfl rfl rfl ?_
          refine q_iald rfl rfl (by decide) rfl (by decide) (q_tn (z := 0) rfl ?_)
          refine q_iast rfl rfl (by decide) rfl (by decide) ?_
          refine q_icc1 (z := 9) rfl rfl rfl rfl rfl ?_
          refine q_goto rfl ?_
          refine q_iload_n rfl rfl rfl ?_
          refine q_bipush rfl rfl ?_
          refine q_icge rfl rfl (fun c144 => absurd c144 (by decide)) (fun c144 => ?_)
          refine q_aload_n rfl rfl rfl ?_
          refine q_getf rfl rfl (by decide) rfl rfl ?_
          refine q_iload_n rfl rfl rfl ?_
          refine q_aload_n rfl rfl rfl ?_
          refine q_getf rfl rfl (by decide) rfl rfl ?_
          refine q_iload_n rfl rfl rfl ?_
          refine q_iald rfl rfl (by decide) rfl (by decide) (q_tn (z := 0) rfl ?_)
          refine q_iast rfl rfl (by decide) rfl (by decide) ?_
          refine q_icc1 (z := 10) rfl rfl rfl rfl rfl ?_
          refine q_goto rfl ?_
          refine q_iload_n rfl rfl rfl ?_
          refine q_bipush rfl rfl ?_
          refine q_icge rfl rfl (fun c145 => absurd c145 (by decide)) (fun c145 => ?_)
          refine q_aload_n rfl rfl rfl ?_
          refine q_getf rfl rfl (by decide) rfl rfl ?_
          refine q_iload_n rfl rfl rfl ?_
          refine q_aload_n rfl rfl rfl ?_
          refine q_getf rfl rfl (by decide) rfl rfl ?_
          refine q_iload_n rfl rfl rfl ?_
          refine q_iald rfl rfl (by decide) rfl (by decide) (q_tn (z := 0) rfl ?_)
          refine q_iast rfl rfl (by decide) rfl (by decide) ?_
          refine q_icc1 (z := 11) rfl rfl rfl rfl rfl ?_
          refine q_goto rfl ?_
          refine q_iload_n rfl rfl rfl ?_
          refine q_bipush rfl rfl ?_
          refine q_icge rfl rfl (fun c146 => absurd c146 (by decide)) (fun c146 => ?_)
          refine q_aload_n rfl rfl rfl ?_
          refine q_getf rfl rfl (by decide) rfl rfl ?_
          refine q_iload_n rfl rfl rfl ?_
          refine q_aload_n rfl rfl rfl ?_
          refine q_getf rfl rfl (by decide) rfl rfl ?_
          refine q_iload_n rfl rfl rfl ?_
          refine q_iald rfl rfl (by decide) rfl (by decide) (q_tn (z := 0) rfl ?_)
          refine q_iast rfl rfl (by decide) rfl (by decide) ?_
          refine q_icc1 (z := 12) rfl rfl rfl rfl rfl ?_
          refine q_goto rfl ?_
          refine q_iload_n rfl rfl rfl ?_
          refine q_bipush rfl rfl ?_
          refine q_icge rfl rfl (fun c147 => absurd c147 (by decide)) (fun c147 => ?_)
          refine q_aload_n rfl rfl rfl ?_
          refine q_getf rfl rfl (by decide) rfl rfl ?_
          refine q_iload_n rfl rfl rfl ?_
          refine q_aload_n rfl rfl rfl ?_
          refine q_getf rfl rfl (by decide) rfl rfl ?_
          refine q_iload_n rfl rfl rfl ?_
          refine q_iald rfl rfl (by decide) rfl (by decide) (q_tn (z := 0) rfl ?_)
          refine q_iast rfl rfl (by decide) rfl (by decide) ?_
          refine q_icc1 (z := 13) rfl rfl rfl rfl rfl ?_
          refine q_goto rfl ?_
          refine q_iload_n rfl rfl rfl ?_
          refine q_bipush rfl rfl ?_
          refine q_icge rfl rfl (fun c148 => absurd c148 (by decide)) (fun c148 => ?_)
          refine q_aload_n rfl rfl rfl ?_
          refine q_getf rfl rfl (by decide) rfl rfl ?_
          refine q_iload_n rfl rfl rfl ?_
          refine q_aload_n rfl rfl rfl ?_
          refine q_getf rfl rfl (by decide) rfl rfl ?_
          refine q_iload_n rfl rfl rfl ?_
          refine q_iald rfl rfl (by decide) rfl (by decide) (q_tn (z := 0) rfl ?_)
          refine q_iast rfl rfl (by decide) rfl (by decide) ?_
          refine q_icc1 (z := 14) rfl rfl rfl rfl rfl ?_
          refine q_goto rfl ?_
          refine q_iload_n rfl rfl rfl ?_
          refine q_bipush rfl rfl ?_
          refine q_icge rfl rfl (fun c149 => absurd c149 (by decide)) (fun c149 => ?_)
          refine q_aload_n rfl rfl rfl ?_
          refine q_getf rfl rfl (by decide) rfl rfl ?_
          refine q_iload_n rfl rfl rfl ?_
          refine q_aload_n rfl rfl rfl ?_
          refine q_getf rfl rfl (by decide) rfl rfl ?_
          refine q_iload_n rfl rfl rfl ?_
          refine q_iald rfl rfl (by decide) rfl (by decide) (q_tn (z := 0) rfl ?_)
          refine q_iast rfl rfl (by decide) rfl (by decide) ?_
          refine q_icc1 (z := 15) rfl rfl rfl rfl rfl ?_
          refine q_goto rfl ?_
          refine q_iload_n rfl rfl rfl ?_
          refine q_bipush rfl rfl ?_
          refine q_icge rfl rfl (fun c150 => absurd c150 (by decide)) (fun c150 => ?_)
          refine q_aload_n rfl rfl rfl ?_
          refine q_getf rfl rfl (by decide) rfl rfl ?_
          refine q_iload_n rfl rfl rfl ?_
          refine q_aload_n rfl rfl rfl ?_
          refine q_getf rfl rfl (by decide) rfl rfl ?_
          refine q_iload_n rfl rfl rfl ?_
          refine q_iald rfl rfl (by decide) rfl (by decide) (q_tn (z := 0) rfl ?_)
          refine q_iast rfl rfl (by decide) rfl (by decide) ?_
          refine q_icc1 (z := 16) rfl rfl rfl rfl rfl ?_
          refine q_goto rfl ?_
          refine q_iload_n rfl rfl rfl ?_
          refine q_bipush rfl rfl ?_
          refine q_icge rfl rfl (fun c151 => absurd c151 (by decide)) (fun c151 => ?_)
          refine q_aload_n rfl rfl rfl ?_
          refine q_getf rfl rfl (by decide) rfl rfl ?_
          refine q_iload_n rfl rfl rfl ?_
          refine q_aload_n rfl rfl rfl ?_
          refine q_getf rfl rfl (by decide) rfl rfl ?_
          refine q_iload_n rfl rfl rfl ?_
          refine q_iald rfl rfl (by decide) rfl (by decide) (q_tn (z := 0) rfl ?_)
          refine q_iast rfl rfl (by decide) rfl (by decide) ?_
          refine q_icc1 (z := 17) rfl rfl rfl rfl rfl ?_
          refine q_goto rfl ?_
          refine q_iload_n rfl rfl rfl ?_
          refine q_bipush rfl rfl ?_
          refine q_icge rfl rfl (fun c152 => absurd c152 (by decide)) (fun c152 => ?_)
          refine q_aload_n rfl rfl rfl ?_
          refine q_getf rfl rfl (by decide) rfl rfl ?_
          refine q_iload_n rfl rfl rfl ?_
          refine q_aload_n rfl rfl rfl ?_
          refine q_getf rfl rfl (by decide) rfl rfl ?_
          refine q_iload_n rfl rfl rfl ?_
          refine q_iald rfl rfl (by decide) rfl (by decide) (q_tn (z := 0) rfl ?_)
          refine q_iast rfl rfl (by decide) rfl (by decide) ?_
          refine q_icc1 (z := 18) rfl rfl rfl rfl rfl ?_
          refine q_goto rfl ?_
          refine q_iload_n rfl rfl rfl ?_
          refine q_bipush rfl rfl ?_
          refine q_icge rfl rfl (fun c153 => absurd c153 (by decide)) (fun c153 => ?_)
          refine q_aload_n rfl rfl rfl ?_
          refine q_getf rfl rfl (by decide) rfl rfl ?_
          refine q_iload_n rfl rfl rfl ?_
          refine q_aload_n rfl rfl rfl ?_
          refine q_getf rfl rfl (by decide) rfl rfl ?_
          refine q_iload_n rfl rfl rfl ?_
          refine q_iald rfl rfl (by decide) rfl (by decide) (q_tn (z := 0) rfl ?_)
          refine q_iast rfl rfl (by decide) rfl (by decide) ?_
          refine q_icc1 (z := 19) rfl rfl rfl rfl rfl ?_
          refine q_goto rfl ?_
          refine q_iload_n rfl rfl rfl ?_
          refine q_bipush rfl rfl ?_
          refine q_icge rfl rfl (fun c154 => absurd c154 (by decide)) (fun c154 => ?_)
          refine q_aload_n rfl rfl rfl ?_
          refine q_getf rfl rfl (by decide) rfl rfl ?_
          refine q_iload_n rfl rfl rfl ?_
          refine q_aload_n rfl rfl rfl ?_
          refine q_getf rfl rfl (by decide) rfl rfl ?_
          refine q_iload_n rfl rfl rfl ?_
          refine q_iald rfl rfl (by decide) rfl (by decide) (q_tn (z := 0) rfl ?_)
          refine q_iast rfl rfl (by decide) rfl (by decide) ?_
          refine q_icc1 (z := 20) rfl rfl rfl rfl rfl ?_
          refine q_goto rfl ?_
          refine q_iload_n rfl rfl rfl ?_
          refine q_bipush rfl rfl ?_
          refine q_icge rfl rfl (fun c155 => ?_) (fun c155 => absurd (by decide) c155)
          refine q_ret rfl rfl ?_
          refine ⟨rfl, ?_⟩
          refine q_iconst rfl rfl ?_
          refine q_ist1n rfl rfl rfl rfl ?_
          refine q_iload_n rfl rfl rfl ?_
          refine q_bipush rfl rfl ?_
          refine q_icge rfl rfl (fun c156 => absurd c156 (by decide)) (fun c156 => ?_)
          refine q_aload_n rfl rfl rfl ?_
          refine q_getf rfl rfl (by decide) rfl rfl ?_
          refine q_iload_n rfl rfl rfl ?_
          refine q_bipush rfl rfl ?_
          refine q_iast rfl rfl (by decide) (FW_74 S hW) (by decide) ?_
          refine q_icc1 (z := 1) rfl rfl rfl rfl rfl ?_
          refine q_goto rfl ?_
          refine q_iload_n rfl rfl rfl ?_
          refine q_bipush rfl rfl ?_
          refine q_icge rfl rfl (fun c157 => absurd c157 (by decide)) (fun c157 => ?_)
          refine q_aload_n rfl rfl rfl ?_
          refine q_getf rfl rfl (by decide) rfl rfl ?_
          refine q_iload_n rfl rfl rfl ?_
          refine q_bipush rfl rfl ?_
          refine q_iast rfl rfl (by decide) rfl (by decide) ?_
          refine q_icc1 (z := 2) rfl rfl rfl rfl rfl ?_
          refine q_goto rfl ?_
          refine q_iload_n rfl rfl rfl ?_
          refine q_bipush rfl rfl ?_
          refine q_icge rfl rfl (fun c158 => absurd c158 (by decide)) (fun c158 => ?_)
          refine q_aload_n rfl rfl rfl ?_
          refine q_getf rfl rfl (by decide) rfl rfl ?_
          refine q_iload_n rfl rfl rfl ?_
          refine q_bipush rfl rfl ?_
          refine q_iast rfl rfl (by decide) rfl (by decide) ?_
          refine q_icc1 (z := 3) rfl rfl rfl rfl rfl ?_
          refine q_goto rfl ?_
          refine q_iload_n rfl rfl rfl ?_
          refine q_bipush rfl rfl ?_
          refine q_icge rfl rfl (fun c159 => absurd c159 (by decide)) (fun c159 => ?_)
          refine q_aload_n rfl rfl rfl ?_
          refine q_getf rfl rfl (by decide) rfl rfl ?_
          refine q_iload_n rfl rfl rfl ?_
          refine q_bipush rfl rfl ?_
          refine q_iast rfl rfl (by decide) rfl (by decide) ?_
          refine q_icc1 (z := 4) rfl rfl rfl rfl rfl ?_
          refine q_goto rfl ?_
          refine q_iload_n rfl rfl rfl ?_
          refine q_bipush rfl rfl ?_
          refine q_icge rfl rfl (fun c160 => absurd c160 (by decide)) (fun c160 => ?_)
          refine q_aload_n rfl rfl rfl ?_
          refine q_getf rfl rfl (by decide) rfl rfl ?_
          refine q_iload_n rfl rfl rfl ?_
          refine q_bipush rfl rfl ?_
          refine q_iast rfl rfl (by decide) rfl (by decide) ?_
          refine q_icc1 (z := 5) rfl rfl rfl rfl rfl ?_
          refine q_goto rfl ?_
          refine q_iload_n rfl rfl rfl ?_
          refine q_bipush rfl rfl ?_
          refine q_icge rfl rfl (fun c161 => absurd c161 (by decide)) (fun c161 => ?_)
          refine q_aload_n rfl rfl rfl ?_
          refine q_getf rfl rfl (by decide) rfl rfl ?_
          refine q_iload_n rfl rfl rfl ?_
          refine q_bipush rfl rfl ?_
          refine q_iast rfl rfl (by decide) rfl (by decide) ?_
          refine q_icc1 (z := 6) rfl rfl rfl rfl rfl ?_
          refine q_goto rfl ?_
          refine q_iload_n rfl rfl rfl ?_
          refine q_bipush rfl rfl ?_
          refine q_icge rfl rfl (fun c162 => absurd c162 (by decide)) (fun c162 => ?_)
          refine q_aload_n rfl rfl rfl ?_
          refine q_getf rfl rfl (by decide) rfl rfl ?_
          refine q_iload_n rfl rfl rfl ?_
          refine q_bipush rfl rfl ?_
          refine q_iast rfl rfl (by decide) rfl (by decide) ?_
          refine q_icc1 (z := 7) rfl rfl rfl rfl rfl ?_
          refine q_goto rfl ?_
          refine q_iload_n rfl rfl rfl ?_
          refine q_bipush rfl rfl ?_
          refine q_icge rfl rfl (fun c163 => absurd c163 (by decide)) (fun c163 => ?_)
          refine q_aload_n rfl rfl rfl ?_
          refine q_getf rfl rfl (by decide) rfl rfl ?_
          refine q_iload_n rfl rfl rfl ?_
          refine q_bipush rfl rfl ?_
          refine q_iast rfl rfl (by decide) rfl (by decide) ?_
          refine q_icc1 (z := 8) rfl rfl rfl rfl rfl ?_
          refine q_goto rfl ?_
          refine q_iload_n rfl rfl rfl ?_
          refine q_bipush rfl rfl ?_
          refine q_icge rfl rfl (fun c164 => absurd c164 (by decide)) (fun c164 => ?_)
          refine q_aload_n rfl rfl rfl ?_
          refine q_getf rfl rfl (by decide) rfl rfl ?_
          refine q_iload_n rfl rfl rfl ?_
          refine q_bipush rfl rfl ?_
          refine q_iast rfl rfl (by decide) rfl (by decide) ?_
          refine q_icc1 (z := 9) rfl rfl rfl rfl rfl ?_
          refine q_goto rfl ?_
          refine q_iload_n rfl rfl rfl ?_
          refine q_bipush rfl rfl ?_
          refine q_icge rfl rfl (fun c165 => absurd c165 (by decide)) (fun c165 => ?_)
          refine q_aload_n rfl rfl rfl ?_
          refine q_getf rfl rfl (by decide) rfl rfl ?_
          refine q_iload_n rfl rfl rfl ?_
          refine q_bipush rfl rfl ?_
          refine q_iast rfl rfl (by decide) rfl (by decide) ?_
          refine q_icc1 (z := 10) rfl rfl rfl rfl rfl ?_
          refine q_goto rfl ?_
          refine q_iload_n rfl rfl rfl ?_
          refine q_bipush rfl rfl ?_
          refine q_icge rfl rfl (fun c166 => absurd c166 (by decide)) (fun c166 => ?_)
          refine q_aload_n rfl rfl rfl ?_
          refine q_getf rfl rfl (by decide) rfl rfl ?_
          refine q_iload_n rfl rfl rfl ?_
          refine q_bipush rfl rfl ?_
          refine q_iast rfl rfl (by decide) rfl (by decide) ?_
          refine q_icc1 (z := 11) rfl rfl rfl rfl rfl ?_
          refine q_goto rfl ?_
          refine q_iload_n rfl rfl rfl ?_
          refine q_bipush rfl rfl ?_
          refine q_icge rfl rfl (fun c167 => absurd c167 (by decide)) (fun c167 => ?_)
          refine q_aload_n rfl rfl rfl ?_
          refine q_getf rfl rfl (by decide) rfl rfl ?_
          refine q_iload_n rfl rfl rfl ?_
          refine q_bipush rfl rfl ?_
          refine q_iast rfl rfl (by decide) rfl (by decide) ?_
          refine q_icc1 (z := 12) rfl rfl rfl rfl rfl ?_
          refine q_goto rfl ?_
          refine q_iload_n rfl rfl rfl ?_
          refine q_bipush rfl rfl ?_
          refine q_icge rfl rfl (fun c168 => absurd c168 (by decide)) (fun c168 => ?_)
          refine q_aload_n rfl rfl rfl ?_
          refine q_getf rfl rfl (by decide) rfl rfl ?_
          refine q_iload_n rfl rfl rfl ?_
          refine q_bipush rfl rfl ?_
          refine q_iast rfl rfl (by decide) rfl (by decide) ?_
          refine q_icc1 (z := 13) rfl rfl rfl rfl rfl ?_
          refine q_goto rfl ?_
          refine q_iload_n rfl rfl rfl ?_
          refine q_bipush rfl rfl ?_
          refine q_icge rfl rfl (fun c169 => absurd c169 (by decide)) (fun c169 => ?_)
          refine q_aload_n rfl rfl rfl ?_
          refine q_getf rfl rfl (by decide) rfl rfl ?_
          refine q_iload_n rfl rfl rfl ?_
          refine q_bipush rfl rfl ?_
          refine q_iast rfl rfl (by decide) rfl (by decide) ?_
          refine q_icc1 (z := 14) rfl rfl rfl rfl rfl ?_
          refine q_goto rfl ?_
          refine q_iload_n rfl rfl rfl ?_
          refine q_bipush rfl rfl ?_
          refine q_icge rfl rfl (fun c170 => absurd c170 (by decide)) (fun c170 => ?_)
          refine q_aload_n rfl rfl rfl ?_
          refine q_getf rfl rfl (by decide) rfl rfl ?_
          refine q_iload_n rfl rfl rfl ?_
          refine q_bipush rfl rfl ?_
          refine q_iast rfl rfl (by decide) rfl (by decide) ?_
          refine q_icc1 (z := 15) rfl rfl rfl rfl rfl ?_
          refine q_goto rfl ?_
          refine q_iload_n rfl rfl rfl ?_
          refine q_bipush rfl rfl ?_
          refine q_icge rfl rfl (fun c171 => absurd c171 (by decide)) (fun c171 => ?_)
          refine q_aload_n rfl rfl rfl ?_
          refine q_getf rfl rfl (by decide) rfl rfl ?_
          refine q_iload_n rfl rfl rfl ?_
          refine q_bipush rfl rfl ?_
          refine q_iast rfl rfl (by decide) rfl (by decide) ?_
          refine q_icc1 (z := 16) rfl rfl rfl rfl rfl ?_
          refine q_goto rfl ?_
          refine q_iload_n rfl rfl rfl ?_
          refine q_bipush rfl rfl ?_
          refine q_icge rfl rfl (fun c172 => absurd c172 (by decide)) (fun c172 => ?_)
          refine q_aload_n rfl rfl rfl ?_
          refine q_getf rfl rfl (by decide) rfl rfl ?_
          refine q_iload_n rfl rfl rfl ?_
          refine q_bipush rfl rfl ?_
          refine q_iast rfl rfl (by decide) rfl (by decide) ?_
          refine q_icc1 (z := 17) rfl rfl rfl rfl rfl ?_
          refine q_goto rfl ?_
          refine q_iload_n rfl rfl rfl ?_
          refine q_bipush rfl rfl ?_
          refine q_icge rfl rfl (fun c173 => absurd c173 (by decide)) (fun c173 => ?_)
          refine q_aload_n rfl rfl rfl ?_
          refine q_getf rfl rfl (by decide) rfl rfl ?_
          refine q_iload_n rfl rfl rfl ?_
          refine q_bipush rfl rfl ?_
          refine q_iast rfl rfl (by decide) rfl (by decide) ?_
          refine q_icc1 (z := 18) rfl rfl rfl rfl rfl ?_
          refine q_goto rfl ?_
          refine q_iload_n rfl rfl rfl ?_
          refine q_bipush rfl rfl ?_
          refine q_icge rfl rfl (fun c174 => absurd c174 (by decide)) (fun c174 => ?_)
          refine q_aload_n rfl rfl rfl ?_
          refine q_getf rfl rfl (by decide) rfl rfl ?_
          refine q_iload_n rfl rfl rfl ?_
          refine q_bipush rfl rfl ?_
          refine q_iast rfl rfl (by decide) rfl (by decide) ?_
          refine q_icc1 (z := 19) rfl rfl rfl rfl rfl ?_
          refine q_goto rfl ?_
          refine q_iload_n rfl rfl rfl ?_
          refine q_bipush rfl rfl ?_
          refine q_icge rfl rfl (fun c175 => absurd c175 (by decide)) (fun c175 => ?_)
          refine q_aload_n rfl rfl rfl ?_
          refine q_getf rfl rfl (by decide) rfl rfl ?_
          refine q_iload_n rfl rfl rfl ?_
          refine q_bipush rfl rfl ?_
          refine q_iast rfl rfl (by decide) rfl (by decide) ?_
          refine q_icc1 (z := 20) rfl rfl rfl rfl rfl ?_
          refine q_goto rfl ?_
          refine q_iload_n rfl rfl rfl ?_
          refine q_bipush rfl rfl ?_
          refine q_icge rfl rfl (fun c176 => absurd c176 (by decide)) (fun c176 => ?_)
          refine q_aload_n rfl rfl rfl ?_
          refine q_getf rfl rfl (by decide) rfl rfl ?_
          refine q_iload_n rfl rfl rfl ?_
          refine q_bipush rfl rfl ?_
          refine q_iast rfl rfl (by decide) rfl (by decide) ?_
          refine q_icc1 (z := 21) rfl rfl rfl rfl rfl ?_
          refine q_goto rfl ?_
          refine q_iload_n rfl rfl rfl ?_
          refine q_bipush rfl rfl ?_
          refine q_icge rfl rfl (fun c177 => absurd c177 (by decide)) (fun c177 => ?_)
          refine q_aload_n rfl rfl rfl ?_
          refine q_getf rfl rfl (by decide) rfl rfl ?_
          refine q_iload_n rfl rfl rfl ?_
          refine q_bipush rfl rfl ?_
          refine q_iast rfl rfl (by decide) rfl (by decide) ?_
          refine q_icc1 (z := 22) rfl rfl rfl rfl rfl ?_
          refine q_goto rfl ?_
          refine q_iload_n rfl rfl rfl ?_
          refine q_bipush rfl rfl ?_
          refine q_icge rfl rfl (fun c178 => absurd c178 (by decide)) (fun c178 => ?_)
          refine q_aload_n rfl rfl rfl ?_
          refine q_getf rfl rfl (by decide) rfl rfl ?_
          refine q_iload_n rfl rfl rfl ?_
          refine q_bipush rfl rfl ?_
          refine q_iast rfl rfl (by decide) rfl (by decide) ?_
          refine q_icc1 (z := 23) rfl rfl rfl rfl rfl ?_
          refine q_goto rfl ?_
          refine q_iload_n rfl rfl rfl ?_
          refine q_bipush rfl rfl ?_
          refine q_icge rfl rfl (fun c179 => absurd c179 (by decide)) (fun c179 => ?_)
          refine q_aload_n rfl rfl rfl ?_
          refine q_getf rfl rfl (by decide) rfl rfl ?_
          refine q_iload_n rfl rfl rfl ?_
          refine q_bipush rfl rfl ?_
          refine q_iast rfl rfl (by decide) rfl (by decide) ?_
          refine q_icc1 (z := 24) rfl rfl rfl rfl rfl ?_
          refine q_goto rfl ?_
          refine q_iload_n rfl rfl rfl ?_
          refine q_bipush rfl rfl ?_
          refine q_icge rfl rfl (fun c180 => absurd c180 (by decide)) (fun c180 => ?_)
          refine q_aload_n rfl rfl rfl ?_
          refine q_getf rfl rfl (by decide) rfl rfl ?_
          refine q_iload_n rfl rfl rfl ?_
          refine q_bipush rfl rfl ?_
          refine q_iast rfl rfl (by decide) rfl (by decide) ?_
          refine q_icc1 (z := 25) rfl rfl rfl rfl rfl ?_
          refine q_goto rfl ?_
          refine q_iload_n rfl rfl rfl ?_
          refine q_bipush rfl rfl ?_
          refine q_icge rfl rfl (fun c181 => absurd c181 (by decide)) (fun c181 => ?_)
          refine q_aload_n rfl rfl rfl ?_
          refine q_getf rfl rfl (by decide) rfl rfl ?_
          refine q_iload_n rfl rfl rfl ?_
          refine q_bipush rfl rfl ?_
          refine q_iast rfl rfl (by decide) rfl (by decide) ?_
          refine q_icc1 (z := 26) rfl rfl rfl rfl rfl ?_
          refine q_goto rfl ?_
          refine q_iload_n rfl rfl rfl ?_
          refine q_bipush rfl rfl ?_
          refine q_icge rfl rfl (fun c182 => absurd c182 (by decide)) (fun c182 => ?_)
          refine q_aload_n rfl rfl rfl ?_
          refine q_getf rfl rfl (by decide) rfl rfl ?_
          refine q_iload_n rfl rfl rfl ?_
          refine q_bipush rfl rfl ?_
          refine q_iast rfl rfl (by decide) rfl (by decide) ?_
          refine q_icc1 (z := 27) rfl rfl rfl rfl rfl ?_
          refine q_goto rfl ?_
          refine q_iload_n rfl rfl rfl ?_
          refine q_bipush rfl rfl ?_
          refine q_icge rfl rfl (fun c183 => absurd c183 (by decide)) (fun c183 => ?_)
          refine q_aload_n rfl rfl rfl ?_
          refine q_getf rfl rfl (by decide) rfl rfl ?_
          refine q_iload_n rfl rfl rfl ?_
          refine q_bipush rfl rfl ?_
          refine q_iast rfl rfl (by decide) rfl (by decide) ?_
          refine q_icc1 (z := 28) rfl rfl rfl rfl rfl ?_
          refine q_goto rfl ?_
          refine q_iload_n rfl rfl rfl ?_
          refine q_bipush rfl rfl ?_
          refine q_icge rfl rfl (fun c184 => absurd c184 (by decide)) (fun c184 => ?_)
          refine q_aload_n rfl rfl rfl ?_
          refine q_getf rfl rfl (by decide) rfl rfl ?_
          refine q_iload_n rfl rfl rfl ?_
          refine q_bipush rfl rfl ?_
          refine q_iast rfl rfl (by decide) rfl (by decide) ?_
          refine q_icc1 (z := 29) rfl rfl rfl rfl rfl ?_
          refine q_goto rfl ?_
          refine q_iload_n rfl rfl rfl ?_
          refine q_bipush rfl rfl ?_
          refine q_icge rfl rfl (fun c185 => absurd c185 (by decide)) (fun c185 => ?_)
          refine q_aload_n rfl rfl rfl ?_
          refine q_getf rfl rfl (by decide) rfl rfl ?_
          refine q_iload_n rfl rfl rfl ?_
          refine q_bipush rfl rfl ?_
          refine q_iast rfl rfl (by decide) rfl (by decide) ?_
          refine q_icc1 (z := 30) rfl rfl rfl rfl rfl ?_
          refine q_goto rfl ?_
          refine q_iload_n rfl rfl rfl ?_
          refine q_bipush rfl rfl ?_
          refine q_icge rfl rfl (fun c186 => absurd c186 (by decide)) (fun c186 => ?_)
          refine q_aload_n rfl rfl rfl ?_
          refine q_getf rfl rfl (by decide) rfl rfl ?_
          refine q_iload_n rfl rfl rfl ?_
          refine q_bipush rfl rfl ?_
          refine q_iast rfl rfl (by decide) rfl (by decide) ?_
          refine q_icc1 (z := 31) rfl rfl rfl rfl rfl ?_
          refine q_goto rfl ?_
          refine q_iload_n rfl rfl rfl ?_
          refine q_bipush rfl rfl ?_
          refine q_icge rfl rfl (fun c187 => absurd c187 (by decide)) (fun c187 => ?_)
          refine q_aload_n rfl rfl rfl ?_
          refine q_getf rfl rfl (by decide) rfl rfl ?_
          refine q_iload_n rfl rfl rfl ?_
          refine q_bipush rfl rfl ?_
          refine q_iast rfl rfl (by decide) rfl (by decide) ?_
          refine q_icc1 (z := 32) rfl rfl rfl rfl rfl ?_
          refine q_goto rfl ?_
          refine q_iload_n rfl rfl rfl ?_
          refine q_bipush rfl rfl ?_
          refine q_icge rfl rfl (fun c188 => absurd c188 (by decide)) (fun c188 => ?_)
          refine q_aload_n rfl rfl rfl ?_
          refine q_getf rfl rfl (by decide) rfl rfl ?_
          refine q_iload_n rfl rfl rfl ?_
          refine q_bipush rfl rfl ?_
          refine q_iast rfl rfl (by decide) rfl (by decide) ?_
          refine q_icc1 (z := 33) rfl rfl rfl rfl rfl ?_
          refine q_goto rfl ?_
          refine q_iload_n rfl rfl rfl ?_
          refine q_bipush rfl rfl ?_
          refine q_icge rfl rfl (fun c189 => absurd c189 (by decide)) (fun c189 => ?_)
          refine q_aload_n rfl rfl rfl ?_
          refine q_getf rfl rfl (by decide) rfl rfl ?_
          refine q_iload_n rfl rfl rfl ?_
          refine q_bipush rfl rfl ?_
          refine q_iast rfl rfl (by decide) rfl (by decide) ?_
          refine q_icc1 (z := 34) rfl rfl rfl rfl rfl ?_
          refine q_goto rfl ?_
          refine q_iload_n rfl rfl rfl ?_
          refine q_bipush rfl rfl ?_
          refine q_icge rfl rfl (fun c190 => absurd c190 (by decide)) (fun c190 => ?_)
          refine q_aload_n rfl rfl rfl ?_
          refine q_getf rfl rfl (by decide) rfl rfl ?_
          refine q_iload_n rfl rfl rfl ?_
          refine q_bipush rfl rfl ?_
          refine q_iast rfl rfl (by decide) rfl (by decide) ?_
          refine q_icc1 (z := 35) rfl rfl rfl rfl rfl ?_
          refine q_goto rfl ?_
          refine q_iload_n rfl rfl rfl ?_
          refine q_bipush rfl rfl ?_
          refine q_icge rfl rfl (fun c191 => absurd c191 (by decide)) (fun c191 => ?_)
          refine q_aload_n rfl rfl rfl ?_
          refine q_getf rfl rfl (by decide) rfl rfl ?_
          refine q_iload_n rfl rfl rfl ?_
          refine q_bipush rfl rfl ?_
          refine q_iast rfl rfl (by decide) rfl (by decide) ?_
          refine q_icc1 (z := 36) rfl rfl rfl rfl rfl ?_
          refine q_goto rfl ?_
          refine q_iload_n rfl rfl rfl ?_
          refine q_bipush rfl rfl ?_
          refine q_icge rfl rfl (fun c192 => absurd c192 (by decide)) (fun c192 => ?_)
          refine q_aload_n rfl rfl rfl ?_
          refine q_getf rfl rfl (by decide) rfl rfl ?_
          refine q_iload_n rfl rfl rfl ?_
          refine q_bipush rfl rfl ?_
          refine q_iast rfl rfl (by decide) rfl (by decide) ?_
          refine q_icc1 (z := 37) rfl rfl rfl rfl rfl ?_
          refine q_goto rfl ?_
          refine q_iload_n rfl rfl rfl ?_
          refine q_bipush rfl rfl ?_
          refine q_icge rfl rfl (fun c193 => absurd c193 (by decide)) (fun c193 => ?_)
          refine q_aload_n rfl rfl rfl ?_
          refine q_getf rfl rfl (by decide) rfl rfl ?_
          refine q_iload_n rfl rfl rfl ?_
          refine q_bipush rfl rfl ?_
          refine q_iast rfl rfl (by decide) rfl (by decide) ?_
          refine q_icc1 (z := 38) rfl rfl rfl rfl rfl ?_
          refine q_goto rfl ?_
          refine q_iload_n rfl rfl rfl ?_
          refine q_bipush rfl rfl ?_
          refine q_icge rfl rfl (fun c194 => absurd c194 (by decide)) (fun c194 => ?_)
          refine q_aload_n rfl rfl rfl ?_
          refine q_getf rfl rfl (by decide) rfl rfl ?_
          refine q_iload_n rfl rfl rfl ?_
          refine q_bipush rfl rfl ?_
          refine q_iast rfl rfl (by decide) rfl (by decide) ?_
          refine q_icc1 (z := 39) rfl rfl rfl rfl rfl ?_
          refine q_goto rfl ?_
          refine q_iload_n rfl rfl rfl ?_
          refine q_bipush rfl rfl ?_
          refine q_icge rfl rfl (fun c195 => absurd c195 (by decide)) (fun c195 => ?_)
          refine q_aload_n rfl rfl rfl ?_
          refine q_getf rfl rfl (by decide) rfl rfl ?_
          refine q_iload_n rfl rfl rfl ?_
          refine q_bipush rfl rfl ?_
          refine q_iast rfl rfl (by decide) rfl (by decide) ?_
          refine q_icc1 (z := 40) rfl rfl rfl rfl rfl ?_
          refine q_goto rfl ?_
          refine q_iload_n rfl rfl rfl ?_
          refine q_bipush rfl rfl ?_
          refine q_icge rfl rfl (fun c196 => ?_) (fun c196 => absurd (by decide) c196)
          refine q_aload_n rfl rfl rfl ?_
          refine q_iconst rfl rfl ?_
          refine q_putf rfl rfl (by decide) rfl (Nat.lt_of_lt_of_le (Nat.lt_succ_self _) (Nat.le_of_ble_eq_true rfl)) rfl trivial ?_
          refine q_iconst rfl rfl ?_
          refine q_ist1n rfl rfl rfl rfl ?_
          refine q_iload_n rfl rfl rfl ?_
          refine q_iconst rfl rfl ?_
          refine q_icge rfl rfl (fun c197 => absurd c197 (by decide)) (fun c197 => ?_)
          refine q_aload_n rfl rfl rfl ?_
          refine q_getf rfl rfl (by decide) rfl rfl ?_
          refine q_iload_n rfl rfl rfl ?_
          refine q_iconst rfl rfl ?_
          refine q_iast rfl rfl (by decide) (FW_62 S hW) (by decide) ?_
          refine q_icc1 (z := 1) rfl rfl rfl rfl rfl ?_
          refine q_goto rfl ?_
          refine q_iload_n rfl rfl rfl ?_
          refine q_iconst rfl rfl ?_
          refine q_icge rfl rfl (fun c198 => absurd c198 (by decide)) (fun c198 => ?_)
          refine q_aload_n rfl rfl rfl ?_
          refine q_getf rfl rfl (by decide) rfl rfl ?_
          refine q_iload_n rfl rfl rfl ?_
          refine q_iconst rfl rfl ?_
          refine q_iast rfl rfl (by decide) rfl (by decide) ?_
          refine q_icc1 (z := 2) rfl rfl rfl rfl rfl ?_
          refine q_goto rfl ?_
          refine q_iload_n rfl rfl rfl ?_
          refine q_iconst rfl rfl ?_
          refine q_icge rfl rfl (fun c199 => absurd c199 (by decide)) (fun c199 => ?_)
          refine q_aload_n rfl rfl rfl ?_
          refine q_getf rfl rfl (by decide) rfl rfl ?_
          refine q_iload_n rfl rfl rfl ?_
          refine q_iconst rfl rfl ?_
          refine q_iast rfl rfl (by decide) rfl (by decide) ?_
          refine q_icc1 (z := 3) rfl rfl rfl rfl rfl ?_
          refine q_goto rfl ?_
          refine q_iload_n rfl rfl rfl ?_
          refine q_iconst rfl rfl ?_
          refine q_icge rfl rfl (fun c200 => absurd c200 (by decide)) (fun c200 => ?_)
          refine q_aload_n rfl rfl rfl ?_
          refine q_getf rfl rfl (by decide) rfl rfl ?_
          refine q_iload_n rfl rfl rfl ?_
          refine q_iconst rfl rfl ?_
          refine q_iast rfl rfl (by decide) rfl (by decide) ?_
          refine q_icc1 (z := 4) rfl rfl rfl rfl rfl ?_
          refine q_goto rfl ?_
          refine q_iload_n rfl rfl rfl ?_
          refine q_iconst rfl rfl ?_
          refine q_icge rfl rfl (fun c201 => absurd c201 (by decide)) (fun c201 => ?_)
          refine q_aload_n rfl rfl rfl ?_
          refine q_getf rfl rfl (by decide) rfl rfl ?_
          refine q_iload_n rfl rfl rfl ?_
          refine q_iconst rfl rfl ?_
          refine q_iast rfl rfl (by decide) rfl (by decide) ?_
          refine q_icc1 (z := 5) rfl rfl rfl rfl rfl ?_
          refine q_goto rfl ?_
          refine q_iload_n rfl rfl rfl ?_
          refine q_iconst rfl rfl ?_
          refine q_icge rfl rfl (fun c202 => ?_) (fun c202 => absurd (by decide) c202)
          refine q_aload_n rfl rfl rfl ?_
          refine q_iconst rfl rfl ?_
          refine q_putf rfl rfl (by decide) rfl (Nat.lt_of_lt_of_le (Nat.lt_succ_self _) (Nat.le_of_ble_eq_true rfl)) rfl rfl ?_
          refine q_ret rfl rfl ?_
          refine ⟨rfl, ?_⟩
          refine q_iload_n rfl rfl rfl ?_
          refine q_iret rfl rfl trivial ?_
          refine ⟨_, rfl, ?_⟩
          refine q_iceq rfl rfl (fun c203 => ?_) (fun c203 => absurd (by decide) c203)
          refine q_icc4 (z := 6) rfl rfl rfl rfl rfl ?_
          refine q_goto rfl ?_
          refine q_iload rfl rfl rfl ?_
          refine q_aload_nF rfl rfl rfl ?_
          refine q_alenX (x := 6) rfl rfl rfl ?_
          refine q_bipush rfl rfl ?_
          refine q_isub rfl rfl (q_tn (z := 0) rfl ?_)
          refine q_icgt rfl rfl (fun c204 => ?_) (fun c204 => absurd (by decide) c204)
          refine q_iconst rfl rfl ?_
          refine q_iret rfl rfl rfl ?_
          exact hK _ _
        · have e204 : x1 = 3 := Int32.le_antisymm c6 (i_ltge (i_nle c129) (B := 3) rfl)
          subst e204
          refine q_aload_n rfl rfl rfl ?_
          refine q_getf rfl rfl (by decide) rfl rfl ?_
          refine q_iconst rfl rfl ?_
          refine q_iload_n rfl rfl rfl ?_
          refine q_imul rfl rfl (q_tn (z := 8) rfl ?_)
          refine q_aload_n rfl rfl rfl ?_
          refine q_getf rfl rfl (by decide) rfl rfl ?_
          refine q_aload_n rfl rfl rfl ?_
          refine q_getf rfl rfl (by decide) rfl rfl ?_
          refine q_iload_n rfl rfl rfl ?_
          refine q_iadd rfl rfl (q_tn (z := 2) rfl ?_)
          refine q_iald rfl rfl (by decide) rfl (by decide) (q_tn (z := 0) rfl ?_)
          refine q_ifne rfl rfl (fun c205 => ?_) (fun c205 => absurd (by decide) c205)
          refine q_bipush rfl rfl ?_
          refine q_goto rfl ?_
          refine q_iast rfl rfl (by decide) rfl (by decide) ?_
          refine q_icc1 (z := 3) rfl rfl rfl rfl rfl ?_
          refine q_goto rfl ?_
          refine q_iload_n rfl rfl rfl ?_
          refine q_aload_n rfl rfl rfl ?_
          refine q_getf rfl rfl (by decide) rfl rfl ?_
          refine q_icge rfl rfl (fun c206 => ?_) (fun c206 => absurd (by decide) c206)
          refine q_iconst rfl rfl ?_
          refine q_ist1n rfl rfl rfl rfl ?_
          refine q_iload_n rfl rfl rfl ?_
          refine q_iconst rfl rfl ?_
          refine q_icge rfl rfl (fun c207 => absurd c207 (by decide)) (fun c207 => ?_)
          refine q_aload_n rfl rfl rfl ?_
          refine q_getf rfl rfl (by decide) rfl rfl ?_
          refine q_bipush rfl rfl ?_
          refine q_iload_n rfl rfl rfl ?_
          refine q_iadd rfl rfl (q_tn (z := 12) rfl ?_)
          refine q_aload_n rfl rfl rfl ?_
          refine q_getf rfl rfl (by decide) rfl rfl ?_
          refine q_iload_n rfl rfl rfl ?_
          refine q_iald rfl rfl (by decide) rfl (by decide) (q_tn (z := 0) rfl ?_)
          refine q_iast rfl rfl (by decide) rfl (by decide) ?_
          refine q_icc1 (z := 1) rfl rfl rfl rfl rfl ?_
          refine q_goto rfl ?_
          refine q_iload_n rfl rfl rfl ?_
          refine q_iconst rfl rfl ?_
          refine q_icge rfl rfl (fun c208 => absurd c208 (by decide)) (fun c208 => ?_)
          refine q_aload_n rfl rfl rfl ?_
          refine q_getf rfl rfl (by decide) rfl rfl ?_
          refine q_bipush rfl rfl ?_
          refine q_iload_n rfl rfl rfl ?_
          refine q_iadd rfl rfl (q_tn (z := 13) rfl ?_)
          refine q_aload_n rfl rfl rfl ?_
          refine q_getf rfl rfl (by decide) rfl rfl ?_
          refine q_iload_n rfl rfl rfl ?_
          refine q_iald rfl rfl (by decide) rfl (by decide) (q_tn (z := 0) rfl ?_)
          refine q_iast rfl rfl (by decide) rfl (by decide) ?_
          refine q_icc1 (z := 2) rfl rfl rfl rfl rfl ?_
          refine q_goto rfl ?_
          refine q_iload_n rfl rfl rfl ?_
          refine q_iconst rfl rfl ?_
          refine q_icge rfl rfl (fun c209 => absurd c209 (by decide)) (fun c209 => ?_)
          refine q_aload_n rfl rfl rfl ?_
          refine q_getf rfl rfl (by decide) rfl rfl ?_
          refine q_bipush rfl rfl ?_
          refine q_iload_n rfl rfl rfl ?_
          refine q_iadd rfl rfl (q_tn (z := 14) rfl ?_)
          refine q_aload_n rfl rfl rfl ?_
          refine q_getf rfl rfl (by decide) rfl rfl ?_
          refine q_iload_n rfl rfl rfl ?_
          refine q_iald rfl rfl (by decide) rfl (by decide) (q_tn (z := 0) rfl ?_)
          refine q_iast rfl rfl (by decide) rfl (by decide) ?_
          refine q_icc1 (z := 3) rfl rfl rfl rfl rfl ?_
          refine q_goto rfl ?_
          refine q_iload_n rfl rfl rfl ?_
          refine q_iconst rfl rfl ?_
          refine q_icge rfl rfl (fun c210 => absurd c210 (by decide)) (fun c210 => ?_)
          refine q_aload_n rfl rfl rfl ?_
          refine q_getf rfl rfl (by decide) rfl rfl ?_
          refine q_bipush rfl rfl ?_
          refine q_iload_n rfl rfl rfl ?_
          refine q_iadd rfl rfl (q_tn (z := 15) rfl ?_)
          refine q_aload_n rfl rfl rfl ?_
          refine q_getf rfl rfl (by decide) rfl rfl ?_
          refine q_iload_n rfl rfl rfl ?_
          refine q_iald rfl rfl (by decide) rfl (by decide) (q_tn (z := 0) rfl ?_)
          refine q_iast rfl rfl (by decide) rfl (by decide) ?_
          refine q_icc1 (z := 4) rfl rfl rfl rfl rfl ?_
          refine q_goto rfl ?_
          refine q_iload_n rfl rfl rfl ?_
          refine q_iconst rfl rfl ?_
          refine q_icge rfl rfl (fun c211 => ?_) (fun c211 => absurd (by decide) c211)
          refine q_ret rfl rfl ?_
          refine ⟨rfl, ?_⟩
          refine q_iconst rfl rfl ?_
          refine q_ist1n rfl rfl rfl rfl ?_
          refine q_iload_n rfl rfl rfl ?_
          refine q_bipush rfl rfl ?_
          refine q_icge rfl rfl (fun c212 => absurd c212 (by decide)) (fun c212 => ?_)
          refine q_aload_n rfl rfl rfl ?_
          refine q_getf rfl rfl (by decide) rfl rfl ?_
          refine q_iload_n rfl rfl rfl ?_
          refine q_aload_n rfl rfl rfl ?_
          refine q_getf rfl rfl (by decide) rfl rfl ?_
          refine q_iload_n rfl rfl rfl ?_
          refine q_iald rfl rfl (by decide) rfl (by decide) (q_tn (z := 10) rfl ?_)
          refine q_iast rfl rfl (by decide) (FW_54 S hW) (by decide) ?_
          refine q_icc1 (z := 1) rfl rfl rfl rfl rfl ?_
          refine q_goto rfl ?_
          refine q_iload_n rfl rfl rfl ?_
          refine q_bipush rfl rfl ?_
          refine q_icge rfl rfl (fun c213 => absurd c213 (by decide)) (fun c213 => ?_)
          refine q_aload_n rfl rfl rfl ?_
          refine q_getf rfl rfl (by decide) rfl rfl ?_
          refine q_iload_n rfl rfl rfl ?_
          refine q_aload_n rfl rfl rfl ?_
          refine q_getf rfl rfl (by decide) rfl rfl ?_
          refine q_iload_n rfl rfl rfl ?_
          refine q_iald rfl rfl (by decide) rfl (by decide) (q_tn (z := 0) rfl ?_)
          refine q_iast rfl rfl (by decide) rfl (by decide) ?_
          refine q_icc1 (z := 2) rfl rfl rfl rfl rfl ?_
          refine q_goto rfl ?_
          refine q_iload_n rfl rfl rfl ?_
          refine q_bipush rfl rfl ?_
          refine q_icge rfl rfl (fun c214 => absurd c214 (by decide)) (fun c214 => ?_)
          refine q_aload_n rfl rfl rfl ?_
          refine q_getf rfl rfl (by decide) rfl rfl ?_
          refine q_iload_n rfl rfl rfl ?_
          refine q_aload_n rfl rfl rfl ?_
          refine q_getf rfl rfl (by decide) rfl rfl ?_
          refine q_iload_n rfl rfl rfl ?_
          refine q_iald rfl rfl (by decide) rfl (by decide) (q_tn (z := 0) rfl ?_)
          refine q_iast rfl rfl (by decide) rfl (by decide) ?_
          refine q_icc1 (z := 3) rfl rfl rfl rfl rfl ?_
          refine q_goto rfl ?_
          refine q_iload_n rfl rfl rfl ?_
          refine q_bipush rfl rfl ?_
          refine q_icge rfl rfl (fun c215 => absurd c215 (by decide)) (fun c215 => ?_)
          refine q_aload_n rfl rfl rfl ?_
          refine q_getf rfl rfl (by decide) rfl rfl ?_
          refine q_iload_n rfl rfl rfl ?_
          refine q_aload_n rfl rfl rfl ?_
          refine q_getf rfl rfl (by decide) rfl rfl ?_
          refine q_iload_n rfl rfl rfl ?_
          refine q_iald rfl rfl (by decide) rfl (by decide) (q_tn (z := 0) rfl ?_)
          refine q_iast rfl rfl (by decide) rfl (by decide) ?_
          refine q_icc1 (z := 4) rfl rfl rfl rfl rfl ?_
          refine q_goto rfl ?_
          refine q_iload_n rfl rfl rfl ?_
          refine q_bipush rfl rfl ?_
          refine q_icge rfl rfl (fun c216 => absurd c216 (by decide)) (fun c216 => ?_)
          refine q_aload_n rfl rfl rfl ?_
          refine q_getf rfl rfl (by decide) rfl rfl ?_
          refine q_iload_n rfl rfl rfl ?_
          refine q_aload_n rfl rfl rfl ?_
          refine q_getf rfl rfl (by decide) rfl rfl ?_
          refine q_iload_n rfl rfl rfl ?_
          refine q_iald rfl rfl (by decide) rfl (by decide) (q_tn (z := 10) rfl ?_)
          refine q_iast rfl rfl (by decide) rfl (by decide) ?_
          refine q_icc1 (z := 5) rfl rfl rfl rfl rfl ?_
          refine q_goto rfl ?_
          refine q_iload_n rfl rfl rfl ?_
          refine q_bipush rfl rfl ?_
          refine q_icge rfl rfl (fun c217 => absurd c217 (by decide)) (fun c217 => ?_)
          refine q_aload_n rfl rfl rfl ?_
          refine q_getf rfl rfl (by decide) rfl rfl ?_
          refine q_iload_n rfl rfl rfl ?_
          refine q_aload_n rfl rfl rfl ?_
          refine q_getf rfl rfl (by decide) rfl rfl ?_
          refine q_iload_n rfl rfl rfl ?_
          refine q_iald rfl rfl (by decide) rfl (by decide) (q_tn (z := 0) rfl ?_)
          refine q_iast rfl rfl (by decide) rfl (by decide) ?_
          refine q_icc1 (z := 6) rfl rfl rfl rfl rfl ?_
          refine q_goto rfl ?_
          refine q_iload_n rfl rfl rfl ?_
          refine q_bipush rfl rfl ?_
          refine q_icge rfl rfl (fun c218 => absurd c218 (by decide)) (fun c218 => ?_)
          refine q_aload_n rfl rfl rfl ?_
          refine q_getf rfl rfl (by decide) rfl rfl ?_
          refine q_iload_n rfl rfl rfl ?_
          refine q_aload_n rfl rfl rfl ?_
          refine q_getf rfl rfl (by decide) rfl rfl ?_
          refine q_iload_n rfl rfl rfl ?_
          refine q_iald rfl rfl (by decide) rfl (by decide) (q_tn (z := 0) rfl ?_)
          refine q_iast rfl rfl (by decide) rfl (by decide) ?_
          refine q_icc1 (z := 7) rfl rfl rfl rfl rfl ?_
          refine q_goto rfl ?_
          refine q_iload_n rfl rfl rfl ?_
          refine q_bipush rfl rfl ?_
          refine q_icge rfl rfl (fun c219 => absurd c219 (by decide)) (fun c219 => ?_)
          refine q_aload_n rfl rfl rfl ?_
          refine q_getf rfl rfl (by decide) rfl rfl ?_
          refine q_iload_n rfl rfl rfl ?_
          refine q_aload_n rfl rfl rfl ?_
          refine q_getf rfl rfl (by decide) rfl rfl ?_
          refine q_iload_n rfl rfl rfl ?_
          refine q_iald rfl rfl (by decide) rfl (by decide) (q_tn (z := 0) rfl ?_)
          refine q_iast rfl rfl (by decide) rfl (by decide) ?_
          refine q_icc1 (z := 8) rfl rfl rfl rfl rfl ?_
          refine q_goto rfl ?_
          refine q_iload_n rfl rfl rfl ?_
          refine q_bipush rfl rfl ?_
          refine q_icge rfl rfl (fun c220 => absurd c220 (by decide)) (fun c220 => ?_)
          refine q_aload_n rfl rfl rfl ?_
          refine q_getf rfl rfl (by decide) rfl rfl ?_
          refine q_iload_n rfl rfl rfl ?_
          refine q_aload_n rfl rfl rfl ?_
          refine q_getf rfl rfl (by decide) rfl rfl ?_
          refine q_iload_n rfl rfl rfl ?_
          refine q_iald rfl rfl (by decide) rfl (by decide) (q_tn (z := 10) rfl ?_)
          refine q_iast rfl rfl (by decide) rfl (by decide) ?_
          refine q_icc1 (z := 9) rfl rfl rfl rfl rfl ?_
          refine q_goto rfl ?_
          refine q_iload_n rfl rfl rfl ?_
          refine q_bipush rfl rfl ?_
          refine q_icge rfl rfl (fun c221 => absurd c221 (by decide)) (fun c221 => ?_)
          refine q_aload_n rfl rfl rfl ?_
          refine q_getf rfl rfl (by decide) rfl rfl ?_
          refine q_iload_n rfl rfl rfl ?_
          refine q_aload_n rfl rfl rfl ?_
          refine q_getf rfl rfl (by decide) rfl rfl ?_
          refine q_iload_n rfl rfl rfl ?_
          refine q_iald rfl rfl (by decide) rfl (by decide) (q_tn (z := 0) rfl ?_)
          refine q_iast rfl rfl (by decide) rfl (by decide) ?_
          refine q_icc1 (z := 10) rfl rfl rfl rfl rfl ?_
          refine q_goto rfl ?_
          refine q_iload_n rfl rfl rfl ?_
          refine q_bipush rfl rfl ?_
          refine q_icge rfl rfl (fun c222 => absurd c222 (by decide)) (fun c222 => ?_)
          refine q_aload_n rfl rfl rfl ?_
          refine q_getf rfl rfl (by decide) rfl rfl ?_
          refine q_iload_n rfl rfl rfl ?_
          refine q_aload_n rfl rfl rfl ?_
          refine q_getf rfl rfl (by decide) rfl rfl ?_
          refine q_iload_n rfl rfl rfl ?_
          refine q_iald rfl rfl (by decide) rfl (by decide) (q_tn (z := 0) rfl ?_)
          refine q_iast rfl rfl (by decide) rfl (by decide) ?_
          refine q_icc1 (z := 11) rfl rfl rfl rfl rfl ?_
          refine q_goto rfl ?_
          refine q_iload_n rfl rfl rfl ?_
          refine q_bipush rfl rfl ?_
          refine q_icge rfl rfl (fun c223 => absurd c223 (by decide)) (fun c223 => ?_)
          refine q_aload_n rfl rfl rfl ?_
          refine q_getf rfl rfl (by decide) rfl rfl ?_
          refine q_iload_n rfl rfl rfl ?_
          refine q_aload_n rfl rfl rfl ?_
          refine q_getf rfl rfl (by decide) rfl rfl ?_
          refine q_iload_n rfl rfl rfl ?_
          refine q_iald rfl rfl (by decide) rfl (by decide) (q_tn (z := 0) rfl ?_)
          refine q_iast rfl rfl (by decide) rfl (by decide) ?_
          refine q_icc1 (z := 12) rfl rfl rfl rfl rfl ?_
          refine q_goto rfl ?_
          refine q_iload_n rfl rfl rfl ?_
          refine q_bipush rfl rfl ?_
          refine q_icge rfl rfl (fun c224 => absurd c224 (by decide)) (fun c224 => ?_)
          refine q_aload_n rfl rfl rfl ?_
          refine q_getf rfl rfl (by decide) rfl rfl ?_
          refine q_iload_n rfl rfl rfl ?_
          refine q_aload_n rfl rfl rfl ?_
          refine q_getf rfl rfl (by decide) rfl rfl ?_
          refine q_iload_n rfl rfl rfl ?_
          refine q_iald rfl rfl (by decide) rfl (by decide) (q_tn (z := 0) rfl ?_)
          refine q_iast rfl rfl (by decide) rfl (by decide) ?_
          refine q_icc1 (z := 13) rfl rfl rfl rfl rfl ?_
          refine q_goto rfl ?_
          refine q_iload_n rfl rfl rfl ?_
          refine q_bipush rfl rfl ?_
          refine q_icge rfl rfl (fun c225 => absurd c225 (by decide)) (fun c225 => ?_)
          refine q_aload_n rfl rfl rfl ?_
          refine q_getf rfl rfl (by decide) rfl rfl ?_
          refine q_iload_n rfl rfl rfl ?_
          refine q_aload_n rfl rfl rfl ?_
          refine q_getf rfl rfl (by decide) rfl rfl ?_
          refine q_iload_n rfl rfl rfl ?_
          refine q_iald rfl rfl (by decide) rfl (by decide) (q_tn (z := 0) rfl ?_)
          refine q_iast rfl rfl (by decide) rfl (by decide) ?_
          refine q_icc1 (z := 14) rfl rfl rfl rfl rfl ?_
          refine q_goto rfl ?_
          refine q_iload_n rfl rfl rfl ?_
          refine q_bipush rfl rfl ?_
          refine q_icge rfl rfl (fun c226 => absurd c226 (by decide)) (fun c226 => ?_)
          refine q_aload_n rfl rfl rfl ?_
          refine q_getf rfl rfl (by decide) rfl rfl ?_
          refine q_iload_n rfl rfl rfl ?_
          refine q_aload_n rfl rfl rfl ?_
          refine q_getf rfl rfl (by decide) rfl rfl ?_
          refine q_iload_n rfl rfl rfl ?_
          refine q_iald rfl rfl (by decide) rfl (by decide) (q_tn (z := 0) rfl ?_)
          refine q_iast rfl rfl (by decide) rfl (by decide) ?_
          refine q_icc1 (z := 15) rfl rfl rfl rfl rfl ?_
          refine q_goto rfl ?_
          refine q_iload_n rfl rfl rfl ?_
          refine q_bipush rfl rfl ?_
          refine q_icge rfl rfl (fun c227 => absurd c227 (by decide)) (fun c227 => ?_)
          refine q_aload_n rfl rfl rfl ?_
          refine q_getf rfl rfl (by decide) rfl rfl ?_
          refine q_iload_n rfl rfl rfl ?_
          refine q_aload_n rfl rfl rfl ?_
          refine q_getf rfl rfl (by decide) rfl rfl ?_
          refine q_iload_n rfl rfl rfl ?_
          refine q_iald rfl rfl (by decide) rfl (by decide) (q_tn (z := 0) rfl ?_)
          refine q_iast rfl rfl (by decide) rfl (by decide) ?_
          refine q_icc1 (z := 16) rfl rfl rfl rfl rfl ?_
          refine q_goto rfl ?_
          refine q_iload_n rfl rfl rfl ?_
          refine q_bipush rfl rfl ?_
          refine q_icge rfl rfl (fun c228 => absurd c228 (by decide)) (fun c228 => ?_)
          refine q_aload_n rfl rfl rfl ?_
          refine q_getf rfl rfl (by decide) rfl rfl ?_
          refine q_iload_n rfl rfl rfl ?_
          refine q_aload_n rfl rfl rfl ?_
          refine q_getf rfl rfl (by decide) rfl rfl ?_
          refine q_iload_n rfl rfl rfl ?_
          refine q_iald rfl rfl (by decide) rfl (by decide) (q_tn (z := 0) rfl ?_)
          refine q_iast rfl rfl (by decide) rfl (by decide) ?_
          refine q_icc1 (z := 17) rfl rfl rfl rfl rfl ?_
          refine q_goto rfl ?_
          refine q_iload_n rfl rfl rfl ?_
          refine q_bipush rfl rfl ?_
          refine q_icge rfl rfl (fun c229 => absurd c229 (by decide)) (fun c229 => ?_)
          refine q_aload_n rfl rfl rfl ?_
          refine q_getf rfl rfl (by decide) rfl rfl ?_
          refine q_iload_n rfl rfl rfl ?_
          refine q_aload_n rfl rfl rfl ?_
          refine q_getf rfl rfl (by decide) rfl rfl ?_
          refine q_iload_n rfl rfl rfl ?_
          refine q_iald rfl rfl (by decide) rfl (by decide) (q_tn (z := 0) rfl ?_)
          refine q_iast rfl rfl (by decide) rfl (by decide) ?_
          refine q_icc1 (z := 18) rfl rfl rfl rfl rfl ?_
          refine q_goto rfl ?_
          refine q_iload_n rfl rfl rfl ?_
          refine q_bipush rfl rfl ?_
          refine q_icge rfl rfl (fun c230 => absurd c230 (by decide)) (fun c230 => ?_)
          refine q_aload_n rfl rfl rfl ?_
          refine q_getf rfl rfl (by decide) rfl rfl ?_
          refine q_iload_n rfl rfl rfl ?_
          refine q_aload_n rfl rfl rfl ?_
          refine q_getf rfl rfl (by decide) rfl rfl ?_
          refine q_iload_n rfl rfl rfl ?_
          refine q_iald rfl rfl (by decide) rfl (by decide) (q_tn (z := 0) rfl ?_)
          refine q_iast rfl rfl (by decide) rfl (by decide) ?_
          refine q_icc1 (z := 19) rfl rfl rfl rfl rfl ?_
          refine q_goto rfl ?_
          refine q_iload_n rfl rfl rfl ?_
          refine q_bipush rfl rfl ?_
          refine q_icge rfl rfl (fun c231 => absurd c231 (by decide)) (fun c231 => ?_)
          refine q_aload_n rfl rfl rfl ?_
          refine q_getf rfl rfl (by decide) rfl rfl ?_
          refine q_iload_n rfl rfl rfl ?_
          refine q_aload_n rfl rfl rfl ?_
          refine q_getf rfl rfl (by decide) rfl rfl ?_
          refine q_iload_n rfl rfl rfl ?_
          refine q_iald rfl rfl (by decide) rfl (by decide) (q_tn (z := 0) rfl ?_)
          refine q_iast rfl rfl (by decide) rfl (by decide) ?_
          refine q_icc1 (z := 20) rfl rfl rfl rfl rfl ?_
          refine q_goto rfl ?_
          refine q_iload_n rfl rfl rfl ?_
          refine q_bipush rfl rfl ?_
          refine q_icge rfl rfl (fun c232 => ?_) (fun c232 => absurd (by decide) c232)
          refine q_ret rfl rfl ?_
          refine ⟨rfl, ?_⟩
          refine q_iconst rfl rfl ?_
          refine q_ist1n rfl rfl rfl rfl ?_
          refine q_iload_n rfl rfl rfl ?_
          refine q_bipush rfl rfl ?_
          refine q_icge rfl rfl (fun c233 => absurd c233 (by decide)) (fun c233 => ?_)
          refine q_aload_n rfl rfl rfl ?_
          refine q_getf rfl rfl (by decide) rfl rfl ?_
          refine q_iload_n rfl rfl rfl ?_
          refine q_bipush rfl rfl ?_
          refine q_iast rfl rfl (by decide) (FW_74 S hW) (by decide) ?_
          refine q_icc1 (z := 1) rfl rfl rfl rfl rfl ?_
          refine q_goto rfl ?_
          refine q_iload_n rfl rfl rfl ?_
          refine q_bipush rfl rfl ?_
          refine q_icge rfl rfl (fun c234 => absurd c234 (by decide)) (fun c234 => ?_)
          refine q_aload_n rfl rfl rfl ?_
          refine q_getf rfl rfl (by decide) rfl rfl ?_
          refine q_iload_n rfl rfl rfl ?_
          refine q_bipush rfl rfl ?_
          refine q_iast rfl rfl (by decide) rfl (by decide) ?_
          refine q_icc1 (z := 2) rfl rfl rfl rfl rfl ?_
          refine q_goto rfl ?_
          refine q_iload_n rfl rfl rfl ?_
          refine q_bipush rfl rfl ?_
          refine q_icge rfl rfl (fun c235 => absurd c235 (by decide)) (fun c235 => ?_)
          refine q_aload_n rfl rfl rfl ?_
          refine q_getf rfl rfl (by decide) rfl rfl ?_
          refine q_iload_n rfl rfl rfl ?_
          refine q_bipush rfl rfl ?_
          refine q_iast rfl rfl (by decide) rfl (by decide) ?_
          refine q_icc1 (z := 3) rfl rfl rfl rfl rfl ?_
          refine q_goto rfl ?_
          refine q_iload_n rfl rfl rfl ?_
          refine q_bipush rfl rfl ?_
          refine q_icge rfl rfl (fun c236 => absurd c236 (by decide)) (fun c236 => ?_)
          refine q_aload_n rfl rfl rfl ?_
          refine q_getf rfl rfl (by decide) rfl rfl ?_
          refine q_iload_n rfl rfl rfl ?_
          refine q_bipush rfl rfl ?_
          refine q_iast rfl rfl (by decide) rfl (by decide) ?_
          refine q_icc1 (z := 4) rfl rfl rfl rfl rfl ?_
          refine q_goto rfl ?_
          refine q_iload_n rfl rfl rfl ?_
          refine q_bipush rfl rfl ?_
          refine q_icge rfl rfl (fun c237 => absurd c237 (by decide)) (fun c237 => ?_)
          refine q_aload_n rfl rfl rfl ?_
          refine q_getf rfl rfl (by decide) rfl rfl ?_
          refine q_iload_n rfl rfl rfl ?_
          refine q_bipush rfl rfl ?_
          refine q_iast rfl rfl (by decide) rfl (by decide) ?_
          refine q_icc1 (z := 5) rfl rfl rfl rfl rfl ?_
          refine q_goto rfl ?_
          refine q_iload_n rfl rfl rfl ?_
          refine q_bipush rfl rfl ?_
          refine q_icge rfl rfl (fun c238 => absurd c238 (by decide)) (fun c238 => ?_)
          refine q_aload_n rfl rfl rfl ?_
          refine q_getf rfl rfl (by decide) rfl rfl ?_
          refine q_iload_n rfl rfl rfl ?_
          refine q_bipush rfl rfl ?_
          refine q_iast rfl rfl (by decide) rfl (by decide) ?_
          refine q_icc1 (z := 6) rfl rfl rfl rfl rfl ?_
          refine q_goto rfl ?_
          refine q_iload_n rfl rfl rfl ?_
          refine q_bipush rfl rfl ?_
          refine q_icge rfl rfl (fun c239 => absurd c239 (by decide)) (fun c239 => ?_)
          refine q_aload_n rfl rfl rfl ?_
          refine q_getf rfl rfl (by decide) rfl rfl ?_
          refine q_iload_n rfl rfl rfl ?_
          refine q_bipush rfl rfl ?_
          refine q_iast rfl rfl (by decide) rfl (by decide) ?_
          refine q_icc1 (z := 7) rfl rfl rfl rfl rfl ?_
          refine q_goto rfl ?_
          refine q_iload_n rfl rfl rfl ?_
          refine q_bipush rfl rfl ?_
          refine q_icge rfl rfl (fun c240 => absurd c240 (by decide)) (fun c240 => ?_)
          refine q_aload_n rfl rfl rfl ?_
          refine q_getf rfl rfl (by decide) rfl rfl ?_
          refine q_iload_n rfl rfl rfl ?_
          refine q_bipush rfl rfl ?_
          refine q_iast rfl rfl (by decide) rfl (by decide) ?_
          refine q_icc1 (z := 8) rfl rfl rfl rfl rfl ?_
          refine q_goto rfl ?_
          refine q_iload_n rfl rfl rfl ?_
          refine q_bipush rfl rfl ?_
          refine q_icge rfl rfl (fun c241 => absurd c241 (by decide)) (fun c241 => ?_)
          refine q_aload_n rfl rfl rfl ?_
          refine q_getf rfl rfl (by decide) rfl rfl ?_
          refine q_iload_n rfl rfl rfl ?_
          refine q_bipush rfl rfl ?_
          refine q_iast rfl rfl (by decide) rfl (by decide) ?_
          refine q_icc1 (z := 9) rfl rfl rfl rfl rfl ?_
          refine q_goto rfl ?_
          refine q_iload_n rfl rfl rfl ?_
          refine q_bipush rfl rfl ?_
          refine q_icge rfl rfl (fun c242 => absurd c242 (by decide)) (fun c242 => ?_)
          refine q_aload_n rfl rfl rfl ?_
          refine q_getf rfl rfl (by decide) rfl rfl ?_
          refine q_iload_n rfl rfl rfl ?_
          refine q_bipush rfl rfl ?_
          refine q_iast rfl rfl (by decide) rfl (by decide) ?_
          refine q_icc1 (z := 10) rfl rfl rfl rfl rfl ?_
          refine q_goto rfl ?_
          refine q_iload_n rfl rfl rfl ?_
          refine q_bipush rfl rfl ?_
          refine q_icge rfl rfl (fun c243 => absurd c243 (by decide)) (fun c243 => ?_)
          refine q_aload_n rfl rfl rfl ?_
          refine q_getf rfl rfl (by decide) rfl rfl ?_
          refine q_iload_n rfl rfl rfl ?_
          refine q_bipush rfl rfl ?_
          refine q_iast rfl rfl (by decide) rfl (by decide) ?_
          refine q_icc1 (z := 11) rfl rfl rfl rfl rfl ?_
          refine q_goto rfl ?_
          refine q_iload_n rfl rfl rfl ?_
          refine q_bipush rfl rfl ?_
          refine q_icge rfl rfl (fun c244 => absurd c244 (by decide)) (fun c244 => ?_)
          refine q_aload_n rfl rfl rfl ?_
          refine q_getf rfl rfl (by decide) rfl rfl ?_
          refine q_iload_n rfl rfl rfl ?_
          refine q_bipush rfl rfl ?_
          refine q_iast rfl rfl (by decide) rfl (by decide) ?_
          refine q_icc1 (z := 12) rfl rfl rfl rfl rfl ?_
          refine q_goto rfl ?_
          refine q_iload_n rfl rfl rfl ?_
          refine q_bipush rfl rfl ?_
          refine q_icge rfl rfl (fun c245 => absurd c245 (by decide)) (fun c245 => ?_)
          refine q_aload_n rfl rfl rfl ?_
          refine q_getf rfl rfl (by decide) rfl rfl ?_
          refine q_iload_n rfl rfl rfl ?_
          refine q_bipush rfl rfl ?_
          refine q_iast rfl rfl (by decide) rfl (by decide) ?_
          refine q_icc1 (z := 13) rfl rfl rfl rfl rfl ?_
          refine q_goto rfl ?_
          refine q_iload_n rfl rfl rfl ?_
          refine q_bipush rfl rfl ?_
          refine q_icge rfl rfl (fun c246 => absurd c246 (by decide)) (fun c246 => ?_)
          refine q_aload_n rfl rfl rfl ?_
          refine q_getf rfl rfl (by decide) rfl rfl ?_
          refine q_iload_n rfl rfl rfl ?_
          refine q_bipush rfl rfl ?_
          refine q_iast rfl rfl (by decide) rfl (by decide) ?_
          refine q_icc1 (z := 14) rfl rfl rfl rfl rfl ?_
          refine q_goto rfl ?_
          refine q_iload_n rfl rfl rfl ?_
          refine q_bipush rfl rfl ?_
          refine q_icge rfl rfl (fun c247 => absurd c247 (by decide)) (fun c247 => ?_)
          refine q_aload_n rfl rfl rfl ?_
          refine q_getf rfl rfl (by decide) rfl rfl ?_
          refine q_iload_n rfl rfl rfl ?_
          refine q_bipush rfl rfl ?_
          refine q_iast rfl rfl (by decide) rfl (by decide) ?_
          refine q_icc1 (z := 15) rfl rfl rfl rfl rfl ?_
          refine q_goto rfl ?_
          refine q_iload_n rfl rfl rfl ?_
          refine q_bipush rfl rfl ?_
          refine q_icge rfl rfl (fun c248 => absurd c248 (by decide)) (fun c248 => ?_)
          refine q_aload_n rfl rfl rfl ?_
          refine q_getf rfl rfl (by decide) rfl rfl ?_
          refine q_iload_n rfl rfl rfl ?_
          refine q_bipush rfl rfl ?_
          refine q_iast rfl rfl (by decide) rfl (by decide) ?_
          refine q_icc1 (z := 16) rfl rfl rfl rfl rfl ?_
          refine q_goto rfl ?_
          refine q_iload_n rfl rfl rfl ?_
          refine q_bipush rfl rfl ?_
          refine q_icge rfl rfl (fun c249 => absurd c249 (by decide)) (fun c249 => ?_)
          refine q_aload_n rfl rfl rfl ?_
          refine q_getf rfl rfl (by decide) rfl rfl ?_
          refine q_iload_n rfl rfl rfl ?_
          refine q_bipush rfl rfl ?_
          refine q_iast rfl rfl (by decide) rfl (by decide) ?_
          refine q_icc1 (z := 17) rfl rfl rfl rfl rfl ?_
          refine q_goto rfl ?_
          refine q_iload_n rfl rfl rfl ?_
          refine q_bipush rfl rfl ?_
          refine q_icge rfl rfl (fun c250 => absurd c250 (by decide)) (fun c250 => ?_)
          refine q_aload_n rfl rfl rfl ?_
          refine q_getf rfl rfl (by decide) rfl rfl ?_
          refine q_iload_n rfl rfl rfl ?_
          refine q_bipush rfl rfl ?_
          refine q_iast rfl rfl (by decide) rfl (by decide) ?_
          refine q_icc1 (z := 18) rfl rfl rfl rfl rfl ?_
          refine q_goto rfl ?_
          refine q_iload_n rfl rfl rfl ?_
          refine q_bipush rfl rfl ?_
          refine q_icge rfl rfl (fun c251 => absurd c251 (by decide)) (fun c251 => ?_)
          refine q_aload_n rfl rfl rfl ?_
          refine q_getf rfl rfl (by decide) rfl rfl ?_
          refine q_iload_n rfl rfl rfl ?_
          refine q_bipush rfl rfl ?_
          refine q_iast rfl rfl (by decide) rfl (by decide) ?_
          refine q_icc1 (z := 19) rfl rfl rfl rfl rfl ?_
          refine q_goto rfl ?_
          refine q_iload_n rfl rfl rfl ?_
          refine q_bipush rfl rfl ?_
          refine q_icge rfl rfl (fun c252 => absurd c252 (by decide)) (fun c252 => ?_)
          refine q_aload_n rfl rfl rfl ?_
          refine q_getf rfl rfl (by decide) rfl rfl ?_
          refine q_iload_n rfl rfl rfl ?_
          refine q_bipush rfl rfl ?_
          refine q_iast rfl rfl (by decide) rfl (by decide) ?_
          refine q_icc1 (z := 20) rfl rfl rfl rfl rfl ?_
          refine q_goto rfl ?_
          refine q_iload_n rfl rfl rfl ?_
          refine q_bipush rfl rfl ?_
          refine q_icge rfl rfl (fun c253 => absurd c253 (by decide)) (fun c253 => ?_)
          refine q_aload_n rfl rfl rfl ?_
          refine q_getf rfl rfl (by decide) rfl rfl ?_
          refine q_iload_n rfl rfl rfl ?_
          refine q_bipush rfl rfl ?_
          refine q_iast rfl rfl (by decide) rfl (by decide) ?_
          refine q_icc1 (z := 21) rfl rfl rfl rfl rfl ?_
          refine q_goto rfl ?_
          refine q_iload_n rfl rfl rfl ?_
          refine q_bipush rfl rfl ?_
          refine q_icge rfl rfl (fun c254 => absurd c254 (by decide)) (fun c254 => ?_)
          refine q_aload_n rfl rfl rfl ?_
          refine q_getf rfl rfl (by decide) rfl rfl ?_
          refine q_iload_n rfl rfl rfl ?_
          refine q_bipush rfl rfl ?_
          refine q_iast rfl rfl (by decide) rfl (by decide) ?_
          refine q_icc1 (z := 22) rfl rfl rfl rfl rfl ?_
          refine q_goto rfl ?_
          refine q_iload_n rfl rfl rfl ?_
          refine q_bipush rfl rfl ?_
          refine q_icge rfl rfl (fun c255 => absurd c255 (by decide)) (fun c255 => ?_)
          refine q_aload_n rfl rfl rfl ?_
          refine q_getf rfl rfl (by decide) rfl rfl ?_
          refine q_iload_n rfl rfl rfl ?_
          refine q_bipush rfl rfl ?_
          refine q_iast rfl rfl (by decide) rfl (by decide) ?_
          refine q_icc1 (z := 23) rfl rfl rfl rfl rfl ?_
          refine q_goto rfl ?_
          refine q_iload_n rfl rfl rfl ?_
          refine q_bipush rfl rfl ?_
          refine q_icge rfl rfl (fun c256 => absurd c256 (by decide)) (fun c256 => ?_)
          refine q_aload_n rfl rfl rfl ?_
          refine q_getf rfl rfl (by decide) rfl rfl ?_
          refine q_iload_n rfl rfl rfl ?_
          refine q_bipush rfl rfl ?_
          refine q_iast rfl rfl (by decide) rfl (by decide) ?_
          refine q_icc1 (z := 24) rfl rfl rfl rfl rfl ?_
          refine q_goto rfl ?_
          refine q_iload_n rfl rfl rfl ?_
          refine q_bipush rfl rfl ?_
          refine q_icge rfl rfl (fun c257 => absurd c257 (by decide)) (fun c257 => ?_)
          refine q_aload_n rfl rfl rfl ?_
          refine q_getf rfl rfl (by decide) rfl rfl ?_
          refine q_iload_n rfl rfl rfl ?_
          refine q_bipush rfl rfl ?_
          refine q_iast rfl rfl (by decide) rfl (by decide) ?_
          refine q_icc1 (z := 25) rfl rfl rfl rfl rfl ?_
          refine q_goto rfl ?_
          refine q_iload_n rfl rfl rfl ?_
          refine q_bipush rfl rfl ?_
          refine q_icge rfl rfl (fun c258 => absurd c258 (by decide)) (fun c258 => ?_)
          refine q_aload_n rfl rfl rfl ?_
          refine q_getf rfl rfl (by decide) rfl rfl ?_
          refine q_iload_n rfl rfl rfl ?_
          refine q_bipush rfl rfl ?_
          refine q_iast rfl rfl (by decide) rfl (by decide) ?_
          refine q_icc1 (z := 26) rfl rfl rfl rfl rfl ?_
          refine q_goto rfl ?_
          refine q_iload_n rfl rfl rfl ?_
          refine q_bipush rfl rfl ?_
          refine q_icge rfl rfl (fun c259 => absurd c259 (by decide)) (fun c259 => ?_)
          refine q_aload_n rfl rfl rfl ?_
          refine q_getf rfl rfl (by decide) rfl rfl ?_
          refine q_iload_n rfl rfl rfl ?_
          refine q_bipush rfl rfl ?_
          refine q_iast rfl rfl (by decide) rfl (by decide) ?_
          refine q_icc1 (z := 27) rfl rfl rfl rfl rfl ?_
          refine q_goto rfl ?_
          refine q_iload_n rfl rfl rfl ?_
          refine q_bipush rfl rfl ?_
          refine q_icge rfl rfl (fun c260 => absurd c260 (by decide)) (fun c260 => ?_)
          refine q_aload_n rfl rfl rfl ?_
          refine q_getf rfl rfl (by decide) rfl rfl ?_
          refine q_iload_n rfl rfl rfl ?_
          refine q_bipush rfl rfl ?_
          refine q_iast rfl rfl (by decide) rfl (by decide) ?_
          refine q_icc1 (z := 28) rfl rfl rfl rfl rfl ?_
          refine q_goto rfl ?_
          refine q_iload_n rfl rfl rfl ?_
          refine q_bipush rfl rfl ?_
          refine q_icge rfl rfl (fun c261 => absurd c261 (by decide)) (fun c261 => ?_)
          refine q_aload_n rfl rfl rfl ?_
          refine q_getf rfl rfl (by decide) rfl rfl ?_
          refine q_iload_n rfl rfl rfl ?_
          refine q_bipush rfl rfl ?_
          refine q_iast rfl rfl (by decide) rfl (by decide) ?_
          refine q_icc1 (z := 29) rfl rfl rfl rfl rfl ?_
          refine q_goto rfl ?_
          refine q_iload_n rfl rfl rfl ?_
          refine q_bipush rfl rfl ?_
          refine q_icge rfl rfl (fun c262 => absurd c262 (by decide)) (fun c262 => ?_)
          refine q_aload_n rfl rfl rfl ?_
          refine q_getf rfl rfl (by decide) rfl rfl ?_
          refine q_iload_n rfl rfl rfl ?_
          refine q_bipush rfl rfl ?_
          refine q_iast rfl rfl (by decide) rfl (by decide) ?_
          refine q_icc1 (z := 30) rfl rfl rfl rfl rfl ?_
          refine q_goto rfl ?_
          refine q_iload_n rfl rfl rfl ?_
          refine q_bipush rfl rfl ?_
          refine q_icge rfl rfl (fun c263 => absurd c263 (by decide)) (fun c263 => ?_)
          refine q_aload_n rfl rfl rfl ?_
          refine q_getf rfl rfl (by decide) rfl rfl ?_
          refine q_iload_n rfl rfl rfl ?_
          refine q_bipush rfl rfl ?_
          refine q_iast rfl rfl (by decide) rfl (by decide) ?_
          refine q_icc1 (z := 31) rfl rfl rfl rfl rfl ?_
          refine q_goto rfl ?_
          refine q_iload_n rfl rfl rfl ?_
          refine q_bipush rfl rfl ?_
          refine q_icge rfl rfl (fun c264 => absurd c264 (by decide)) (fun c264 => ?_)
          refine q_aload_n rfl rfl rfl ?_
          refine q_getf rfl rfl (by decide) rfl rfl ?_
          refine q_iload_n rfl rfl rfl ?_
          refine q_bipush rfl rfl ?_
          refine q_iast rfl rfl (by decide) rfl (by decide) ?_
          refine q_icc1 (z := 32) rfl rfl rfl rfl rfl ?_
          refine q_goto rfl ?_
          refine q_iload_n rfl rfl rfl ?_
          refine q_bipush rfl rfl ?_
          refine q_icge rfl rfl (fun c265 => absurd c265 (by decide)) (fun c265 => ?_)
          refine q_aload_n rfl rfl rfl ?_
          refine q_getf rfl rfl (by decide) rfl rfl ?_
          refine q_iload_n rfl rfl rfl ?_
          refine q_bipush rfl rfl ?_
          refine q_iast rfl rfl (by decide) rfl (by decide) ?_
          refine q_icc1 (z := 33) rfl rfl rfl rfl rfl ?_
          refine q_goto rfl ?_
          refine q_iload_n rfl rfl rfl ?_
          refine q_bipush rfl rfl ?_
          refine q_icge rfl rfl (fun c266 => absurd c266 (by decide)) (fun c266 => ?_)
          refine q_aload_n rfl rfl rfl ?_
          refine q_getf rfl rfl (by decide) rfl rfl ?_
          refine q_iload_n rfl rfl rfl ?_
          refine q_bipush rfl rfl ?_
          refine q_iast rfl rfl (by decide) rfl (by decide) ?_
          refine q_icc1 (z := 34) rfl rfl rfl rfl rfl ?_
          refine q_goto rfl ?_
          refine q_iload_n rfl rfl rfl ?_
          refine q_bipush rfl rfl ?_
          refine q_icge rfl rfl (fun c267 => absurd c267 (by decide)) (fun c267 => ?_)
          refine q_aload_n rfl rfl rfl ?_
          refine q_getf rfl rfl (by decide) rfl rfl ?_
          refine q_iload_n rfl rfl rfl ?_
          refine q_bipush rfl rfl ?_
          refine q_iast rfl rfl (by decide) rfl (by decide) ?_
          refine q_icc1 (z := 35) rfl rfl rfl rfl rfl ?_
          refine q_goto rfl ?_
          refine q_iload_n rfl rfl rfl ?_
          refine q_bipush rfl rfl ?_
          refine q_icge rfl rfl (fun c268 => absurd c268 (by decide)) (fun c268 => ?_)
          refine q_aload_n rfl rfl rfl ?_
          refine q_getf rfl rfl (by decide) rfl rfl ?_
          refine q_iload_n rfl rfl rfl ?_
          refine q_bipush rfl rfl ?_
          refine q_iast rfl rfl (by decide) rfl (by decide) ?_
          refine q_icc1 (z := 36) rfl rfl rfl rfl rfl ?_
          refine q_goto rfl ?_
          refine q_iload_n rfl rfl rfl ?_
          refine q_bipush rfl rfl ?_
          refine q_icge rfl rfl (fun c269 => absurd c269 (by decide)) (fun c269 => ?_)
          refine q_aload_n rfl rfl rfl ?_
          refine q_getf rfl rfl (by decide) rfl rfl ?_
          refine q_iload_n rfl rfl rfl ?_
          refine q_bipush rfl rfl ?_
          refine q_iast rfl rfl (by decide) rfl (by decide) ?_
          refine q_icc1 (z := 37) rfl rfl rfl rfl rfl ?_
          refine q_goto rfl ?_
          refine q_iload_n rfl rfl rfl ?_
          refine q_bipush rfl rfl ?_
          refine q_icge rfl rfl (fun c270 => absurd c270 (by decide)) (fun c270 => ?_)
          refine q_aload_n rfl rfl rfl ?_
          refine q_getf rfl rfl (by decide) rfl rfl ?_
          refine q_iload_n rfl rfl rfl ?_
          refine q_bipush rfl rfl ?_
          refine q_iast rfl rfl (by decide) rfl (by decide) ?_
          refine q_icc1 (z := 38) rfl rfl rfl rfl rfl ?_
          refine q_goto rfl ?_
          refine q_iload_n rfl rfl rfl ?_
          refine q_bipush rfl rfl ?_
          refine q_icge rfl rfl (fun c271 => absurd c271 (by decide)) (fun c271 => ?_)
          refine q_aload_n rfl rfl rfl ?_
          refine q_getf rfl rfl (by decide) rfl rfl ?_
          refine q_iload_n rfl rfl rfl ?_
          refine q_bipush rfl rfl ?_
          refine q_iast rfl rfl (by decide) rfl (by decide) ?_
          refine q_icc1 (z := 39) rfl rfl rfl rfl rfl ?_
          refine q_goto rfl ?_
          refine q_iload_n rfl rfl rfl ?_
          refine q_bipush rfl rfl ?_
          refine q_icge rfl rfl (fun c272 => absurd c272 (by decide)) (fun c272 => ?_)
          refine q_aload_n rfl rfl rfl ?_
          refine q_getf rfl rfl (by decide) rfl rfl ?_
          refine q_iload_n rfl rfl rfl ?_
          refine q_bipush rfl rfl ?_
          refine q_iast rfl rfl (by decide) rfl (by decide) ?_
          refine q_icc1 (z := 40) rfl rfl rfl rfl rfl ?_
          refine q_goto rfl ?_
          refine q_iload_n rfl rfl rfl ?_
          refine q_bipush rfl rfl ?_
          refine q_icge rfl rfl (fun c273 => ?_) (fun c273 => absurd (by decide) c273)
          refine q_aload_n rfl rfl rfl ?_
          refine q_iconst rfl rfl ?_
          refine q_putf rfl rfl (by decide) rfl (Nat.lt_of_lt_of_le (Nat.lt_succ_self _) (Nat.le_of_ble_eq_true rfl)) rfl trivial ?_
          refine q_iconst rfl rfl ?_
          refine q_ist1n rfl rfl rfl rfl ?_
          refine q_iload_n rfl rfl rfl ?_
          refine q_iconst rfl rfl ?_
          refine q_icge rfl rfl (fun c274 => absurd c274 (by decide)) (fun c274 => ?_)
          refine q_aload_n rfl rfl rfl ?_
          refine q_getf rfl rfl (by decide) rfl rfl ?_
          refine q_iload_n rfl rfl rfl ?_
          refine q_iconst rfl rfl ?_
          refine q_iast rfl rfl (by decide) (FW_62 S hW) (by decide) ?_
          refine q_icc1 (z := 1) rfl rfl rfl rfl rfl ?_
          refine q_goto rfl ?_
          refine q_iload_n rfl rfl rfl ?_
          refine q_iconst rfl rfl ?_
          refine q_icge rfl rfl (fun c275 => absurd c275 (by decide)) (fun c275 => ?_)
          refine q_aload_n rfl rfl rfl ?_
          refine q_getf rfl rfl (by decide) rfl rfl ?_
          refine q_iload_n rfl rfl rfl ?_
          refine q_iconst rfl rfl ?_
          refine q_iast rfl rfl (by decide) rfl (by decide) ?_
          refine q_icc1 (z := 2) rfl rfl rfl rfl rfl ?_
          refine q_goto rfl ?_
          refine q_iload_n rfl rfl rfl ?_
          refine q_iconst rfl rfl ?_
          refine q_icge rfl rfl (fun c276 => absurd c276 (by decide)) (fun c276 => ?_)
          refine q_aload_n rfl rfl rfl ?_
          refine q_getf rfl rfl (by decide) rfl rfl ?_
          refine q_iload_n rfl rfl rfl ?_
          refine q_iconst rfl rfl ?_
          refine q_iast rfl rfl (by decide) rfl (by decide) ?_
          refine q_icc1 (z := 3) rfl rfl rfl rfl rfl ?_
          refine q_goto rfl ?_
          refine q_iload_n rfl rfl rfl ?_
          refine q_iconst rfl rfl ?_
          refine q_icge rfl rfl (fun c277 => absurd c277 (by decide)) (fun c277 => ?_)
          refine q_aload_n rfl rfl rfl ?_
          refine q_getf rfl rfl (by decide) rfl rfl ?_
          refine q_iload_n rfl rfl rfl ?_
          refine q_iconst rfl rfl ?_
          refine q_iast rfl rfl (by decide) rfl (by decide) ?_
          refine q_icc1 (z := 4) rfl rfl rfl rfl rfl ?_
          refine q_goto rfl ?_
          refine q_iload_n rfl rfl rfl ?_
          refine q_iconst rfl rfl ?_
          refine q_icge rfl rfl (fun c278 => absurd c278 (by decide)) (fun c278 => ?_)
          refine q_aload_n rfl rfl rfl ?_
          refine q_getf rfl rfl (by decide) rfl rfl ?_
          refine q_iload_n rfl rfl rfl ?_
          refine q_iconst rfl rfl ?_
          refine q_iast rfl rfl (by decide) rfl (by decide) ?_
          refine q_icc1 (z := 5) rfl rfl rfl rfl rfl ?_
          refine q_goto rfl ?_
          refine q_iload_n rfl rfl rfl ?_
          refine q_iconst rfl rfl ?_
          refine q_icge rfl rfl (fun c279 => ?_) (fun c279 => absurd (by decide) c279)
          refine q_aload_n rfl rfl rfl ?_
          refine q_iconst rfl rfl ?_
          refine q_putf rfl rfl (by decide) rfl (Nat.lt_of_lt_of_le (Nat.lt_succ_self _) (Nat.le_of_ble_eq_true rfl)) rfl rfl ?_
          refine q_ret rfl rfl ?_
          refine ⟨rfl, ?_⟩
          refine q_iload_n rfl rfl rfl ?_
          refine q_iret rfl rfl trivial ?_
          refine ⟨_, rfl, ?_⟩
          refine q_iceq rfl rfl (fun c280 => ?_) (fun c280 => absurd (by decide) c280)
          refine q_icc4 (z := 6) rfl rfl rfl rfl rfl ?_
          refine q_goto rfl ?_
          refine q_iload rfl rfl rfl ?_
          refine q_aload_nF rfl rfl rfl ?_
          refine q_alenX (x := 6) rfl rfl rfl ?_
          refine q_bipush rfl rfl ?_
          refine q_isub rfl rfl (q_tn (z := 0) rfl ?_)
          refine q_icgt rfl rfl (fun c281 => ?_) (fun c281 => absurd (by decide) c281)
          refine q_iconst rfl rfl ?_
          refine q_iret rfl rfl rfl ?_
          exact hK _ _
    · refine q_iconst rfl rfl ?_
      refine q_iret rfl rfl trivial ?_
      refine ⟨_, rfl, ?_⟩
      refine q_aload_n rfl rfl rfl ?_
      refine q_aload_nF rfl rfl rfl ?_
      refine q_iload rfl rfl rfl ?_
      refine q_iconst rfl rfl ?_
      refine q_iadd rfl rfl (q_tn (z := 1) rfl ?_)
      refine q_ialdX (x := x1) rfl rfl rfl hx1 ?_
      refine q_nV1 rfl rfl (Or.inl rfl) rfl rfl rfl (by decide) (FW_46 S hW) ⟨rfl, rfl⟩ rfl ?_
      change PQ _ _ _ mm_X12_puzzle 0 [.ref 46, .int x1, pm_un, pm_un] [] _ _ 0 0 _
      refine q_aload_n rfl rfl rfl ?_
      refine q_iload_n rfl rfl rfl ?_
      refine q_iconst rfl rfl ?_
      refine q_iconst rfl rfl ?_
      refine q_nV3 rfl rfl (Or.inl rfl) rfl rfl rfl (by decide) (FW_46 S hW) ⟨rfl, rfl⟩ rfl ?_
      change PQ _ _ _ mm_X12_in 0 [.ref 46, .int x1, .int 1, .int 3] [] _ _ 0 0 _
      refine q_iload_n rfl rfl rfl ?_
      refine q_iload_n rfl rfl rfl ?_
      refine q_iclt rfl rfl (fun c282 => absurd c282 (i_lt_f (i_ltge (i_nle c6) (B := 4) rfl) rfl)) (fun c282 => ?_)
      refine q_iload_n rfl rfl rfl ?_
      refine q_iload_n rfl rfl rfl ?_
      refine q_icgt rfl rfl (fun c283 => ?_) (fun c283 => absurd (i_gt_t (i_ltge (i_nle c6) (B := 4) rfl) rfl) c283)
      refine q_iconst rfl rfl ?_
      refine q_iret rfl rfl rfl ?_
      refine ⟨_, rfl, ?_⟩
      refine q_ifne rfl rfl (fun c284 => ?_) (fun c284 => absurd (by decide) c284)
      refine q_iconst rfl rfl ?_
      refine q_iret rfl rfl trivial ?_
      refine ⟨_, rfl, ?_⟩
      refine q_iceq rfl rfl (fun c285 => ?_) (fun c285 => absurd (by decide) c285)
      refine q_icc4 (z := 6) rfl rfl rfl rfl rfl ?_
      refine q_goto rfl ?_
      refine q_iload rfl rfl rfl ?_
      refine q_aload_nF rfl rfl rfl ?_
      refine q_alenX (x := 6) rfl rfl rfl ?_
      refine q_bipush rfl rfl ?_
      refine q_isub rfl rfl (q_tn (z := 0) rfl ?_)
      refine q_icgt rfl rfl (fun c286 => ?_) (fun c286 => absurd (by decide) c286)
      refine q_iconst rfl rfl ?_
      refine q_iret rfl rfl rfl ?_
      exact hK _ _
set_option maxHeartbeats 40000000 in
set_option maxRecDepth 20000 in
theorem t_op7 {S : Nat → pm_E} (hW : FW S) {x1 x2 x3 x4 x5 : Int32} (hx1 : xs 1 = x1) (hx2 : xs 2 = x2) (hx3 : xs 3 = x3) (hx4 : xs 4 = x4) (hx5 : xs 5 = x5) (hK : ∀ S n, K (some (.int 1)) S n) : PQ (j_SL 6) (j_SV xs) EX mm_L_law 407 [.float 5, .ref 0, .ref 46, .ref 81, .int 0, pm_un, pm_un, pm_un] [] S 82 82 190091 K := by
  refine q_aload_n rfl rfl rfl ?_
  refine q_aload_nF rfl rfl rfl ?_
  refine q_iload rfl rfl rfl ?_
  refine q_iconst rfl rfl ?_
  refine q_iadd rfl rfl (q_tn (z := 1) rfl ?_)
  refine q_ialdX (x := x1) rfl rfl rfl hx1 ?_
  refine q_aload_nF rfl rfl rfl ?_
  refine q_iload rfl rfl rfl ?_
  refine q_iconst rfl rfl ?_
  refine q_iadd rfl rfl (q_tn (z := 2) rfl ?_)
  refine q_ialdX (x := x2) rfl rfl rfl hx2 ?_
  refine q_nV2 rfl rfl (Or.inl rfl) rfl rfl rfl (by decide) (FW_0 S hW) ⟨rfl, rfl⟩ rfl ?_
  change PQ _ _ _ mm_X11_see 0 [.ref 0, .int x1, .int x2] [] _ _ 0 0 _
  refine q_iload_n rfl rfl rfl ?_
  refine q_iconst rfl rfl ?_
  refine q_icne rfl rfl (fun c1 => ?_) (fun c1 => ?_)
  · subst c1
    refine q_iload_n rfl rfl rfl ?_
    refine q_iconst rfl rfl ?_
    refine q_nS2 rfl rfl (Or.inl rfl) rfl rfl ⟨rfl, rfl⟩ rfl ?_
    change PQ _ _ _ mm_X11_within 0 [.int x2, .int 4] [] _ _ 0 0 _
    refine q_iload_n rfl rfl rfl ?_
    refine q_iflt rfl rfl (fun c2 => ?_) (fun c2 => ?_)
    · refine q_iconst rfl rfl ?_
      refine q_iret rfl rfl rfl ?_
      refine ⟨_, rfl, ?_⟩
      refine q_ifeq rfl rfl (fun c3 => ?_) (fun c3 => absurd (by decide) c3)
      refine q_iconst rfl rfl ?_
      refine q_iret rfl rfl trivial ?_
      refine ⟨_, rfl, ?_⟩
      refine q_aload_n rfl rfl rfl ?_
      refine q_aload_nF rfl rfl rfl ?_
      refine q_iload rfl rfl rfl ?_
      refine q_iconst rfl rfl ?_
      refine q_iadd rfl rfl (q_tn (z := 1) rfl ?_)
      refine q_ialdX (x := 5) rfl rfl rfl hx1 ?_
      refine q_aload_nF rfl rfl rfl ?_
      refine q_iload rfl rfl rfl ?_
      refine q_iconst rfl rfl ?_
      refine q_iadd rfl rfl (q_tn (z := 2) rfl ?_)
      refine q_ialdX (x := x2) rfl rfl rfl hx2 ?_
      refine q_nV2 rfl rfl (Or.inl rfl) rfl rfl rfl (by decide) (FW_46 S hW) ⟨rfl, rfl⟩ rfl ?_
      change PQ _ _ _ mm_X12_see 0 [.ref 46, .int 5, .int x2] [] _ _ 0 0 _
      refine q_aload_n rfl rfl rfl ?_
      refine q_iload_n rfl rfl rfl ?_
      refine q_iconst rfl rfl ?_
      refine q_bipush rfl rfl ?_
      refine q_nV3 rfl rfl (Or.inl rfl) rfl rfl rfl (by decide) (FW_46 S hW) ⟨rfl, rfl⟩ rfl ?_
      change PQ _ _ _ mm_X12_in 0 [.ref 46, .int 5, .int 0, .int 6] [] _ _ 0 0 _
      refine q_iload_n rfl rfl rfl ?_
      refine q_iload_n rfl rfl rfl ?_
      refine q_iclt rfl rfl (fun c4 => absurd c4 (by decide)) (fun c4 => ?_)
      refine q_iload_n rfl rfl rfl ?_
      refine q_iload_n rfl rfl rfl ?_
      refine q_icgt rfl rfl (fun c5 => absurd c5 (by decide)) (fun c5 => ?_)
      refine q_iconst rfl rfl ?_
      refine q_goto rfl ?_
      refine q_iret rfl rfl rfl ?_
      refine ⟨_, rfl, ?_⟩
      refine q_ifeq rfl rfl (fun c6 => absurd c6 (by decide)) (fun c6 => ?_)
      refine q_iload_n rfl rfl rfl ?_
      refine q_iconst rfl rfl ?_
      refine q_icge rfl rfl (fun c7 => ?_) (fun c7 => absurd (by decide) c7)
      refine q_aload_n rfl rfl rfl ?_
      refine q_iload_n rfl rfl rfl ?_
      refine q_iconst rfl rfl ?_
      refine q_iload_n rfl rfl rfl ?_
      refine q_iconst rfl rfl ?_
      refine q_icne rfl rfl (fun c8 => ?_) (fun c8 => absurd (by decide) c8)
      refine q_iconst rfl rfl ?_
      refine q_goto rfl ?_
      refine q_nV3 rfl rfl (Or.inl rfl) rfl rfl rfl (by decide) (FW_46 S hW) ⟨rfl, rfl⟩ rfl ?_
      change PQ _ _ _ mm_X12_in 0 [.ref 46, .int x2, .int 0, .int 3] [] _ _ 0 0 _
      refine q_iload_n rfl rfl rfl ?_
      refine q_iload_n rfl rfl rfl ?_
      refine q_iclt rfl rfl (fun c9 => ?_) (fun c9 => absurd (i_lt_t (i_ltle c2 (B := (-1)) rfl) rfl) c9)
      refine q_iconst rfl rfl ?_
      refine q_iret rfl rfl rfl ?_
      refine ⟨_, rfl, ?_⟩
      refine q_ifne rfl rfl (fun c10 => ?_) (fun c10 => absurd (by decide) c10)
      refine q_iconst rfl rfl ?_
      refine q_iret rfl rfl trivial ?_
      refine ⟨_, rfl, ?_⟩
      refine q_iceq rfl rfl (fun c11 => ?_) (fun c11 => absurd (by decide) c11)
      refine q_icc4 (z := 6) rfl rfl rfl rfl rfl ?_
      refine q_goto rfl ?_
      refine q_iload rfl rfl rfl ?_
      refine q_aload_nF rfl rfl rfl ?_
      refine q_alenX (x := 6) rfl rfl rfl ?_
      refine q_bipush rfl rfl ?_
      refine q_isub rfl rfl (q_tn (z := 0) rfl ?_)
      refine q_icgt rfl rfl (fun c12 => ?_) (fun c12 => absurd (by decide) c12)
      refine q_iconst rfl rfl ?_
      refine q_iret rfl rfl rfl ?_
      exact hK _ _
    · refine q_iload_n rfl rfl rfl ?_
      refine q_iload_n rfl rfl rfl ?_
      refine q_icge rfl rfl (fun c13 => ?_) (fun c13 => ?_)
      · refine q_iconst rfl rfl ?_
        refine q_iret rfl rfl rfl ?_
        refine ⟨_, rfl, ?_⟩
        refine q_ifeq rfl rfl (fun c14 => ?_) (fun c14 => absurd (by decide) c14)
        refine q_iconst rfl rfl ?_
        refine q_iret rfl rfl trivial ?_
        refine ⟨_, rfl, ?_⟩
        refine q_aload_n rfl rfl rfl ?_
        refine q_aload_nF rfl rfl rfl ?_
        refine q_iload rfl rfl rfl ?_
        refine q_iconst rfl rfl ?_
        refine q_iadd rfl rfl (q_tn (z := 1) rfl ?_)
        refine q_ialdX (x := 5) rfl rfl rfl hx1 ?_
        refine q_aload_nF rfl rfl rfl ?_
        refine q_iload rfl rfl rfl ?_
        refine q_iconst rfl rfl ?_
        refine q_iadd rfl rfl (q_tn (z := 2) rfl ?_)
        refine q_ialdX (x := x2) rfl rfl rfl hx2 ?_
        refine q_nV2 rfl rfl (Or.inl rfl) rfl rfl rfl (by decide) (FW_46 S hW) ⟨rfl, rfl⟩ rfl ?_
        change PQ _ _ _ mm_X12_see 0 [.ref 46, .int 5, .int x2] [] _ _ 0 0 _
        refine q_aload_n rfl rfl rfl ?_
        refine q_iload_n rfl rfl rfl ?_
        refine q_iconst rfl rfl ?_
        refine q_bipush rfl rfl ?_
        refine q_nV3 rfl rfl (Or.inl rfl) rfl rfl rfl (by decide) (FW_46 S hW) ⟨rfl, rfl⟩ rfl ?_
        change PQ _ _ _ mm_X12_in 0 [.ref 46, .int 5, .int 0, .int 6] [] _ _ 0 0 _
        refine q_iload_n rfl rfl rfl ?_
        refine q_iload_n rfl rfl rfl ?_
        refine q_iclt rfl rfl (fun c15 => absurd c15 (by decide)) (fun c15 => ?_)
        refine q_iload_n rfl rfl rfl ?_
        refine q_iload_n rfl rfl rfl ?_
        refine q_icgt rfl rfl (fun c16 => absurd c16 (by decide)) (fun c16 => ?_)
        refine q_iconst rfl rfl ?_
        refine q_goto rfl ?_
        refine q_iret rfl rfl rfl ?_
        refine ⟨_, rfl, ?_⟩
        refine q_ifeq rfl rfl (fun c17 => absurd c17 (by decide)) (fun c17 => ?_)
        refine q_iload_n rfl rfl rfl ?_
        refine q_iconst rfl rfl ?_
        refine q_icge rfl rfl (fun c18 => ?_) (fun c18 => absurd (by decide) c18)
        refine q_aload_n rfl rfl rfl ?_
        refine q_iload_n rfl rfl rfl ?_
        refine q_iconst rfl rfl ?_
        refine q_iload_n rfl rfl rfl ?_
        refine q_iconst rfl rfl ?_
        refine q_icne rfl rfl (fun c19 => ?_) (fun c19 => absurd (by decide) c19)
        refine q_iconst rfl rfl ?_
        refine q_goto rfl ?_
        refine q_nV3 rfl rfl (Or.inl rfl) rfl rfl rfl (by decide) (FW_46 S hW) ⟨rfl, rfl⟩ rfl ?_
        change PQ _ _ _ mm_X12_in 0 [.ref 46, .int x2, .int 0, .int 3] [] _ _ 0 0 _
        refine q_iload_n rfl rfl rfl ?_
        refine q_iload_n rfl rfl rfl ?_
        refine q_iclt rfl rfl (fun c20 => absurd c20 (i_lt_f c13 rfl)) (fun c20 => ?_)
        refine q_iload_n rfl rfl rfl ?_
        refine q_iload_n rfl rfl rfl ?_
        refine q_icgt rfl rfl (fun c21 => ?_) (fun c21 => absurd (i_gt_t c13 rfl) c21)
        refine q_iconst rfl rfl ?_
        refine q_iret rfl rfl rfl ?_
        refine ⟨_, rfl, ?_⟩
        refine q_ifne rfl rfl (fun c22 => ?_) (fun c22 => absurd (by decide) c22)
        refine q_iconst rfl rfl ?_
        refine q_iret rfl rfl trivial ?_
        refine ⟨_, rfl, ?_⟩
        refine q_iceq rfl rfl (fun c23 => ?_) (fun c23 => absurd (by decide) c23)
        refine q_icc4 (z := 6) rfl rfl rfl rfl rfl ?_
        refine q_goto rfl ?_
        refine q_iload rfl rfl rfl ?_
        refine q_aload_nF rfl rfl rfl ?_
        refine q_alenX (x := 6) rfl rfl rfl ?_
        refine q_bipush rfl rfl ?_
        refine q_isub rfl rfl (q_tn (z := 0) rfl ?_)
        refine q_icgt rfl rfl (fun c24 => ?_) (fun c24 => absurd (by decide) c24)
        refine q_iconst rfl rfl ?_
        refine q_iret rfl rfl rfl ?_
        exact hK _ _
      · refine q_iconst rfl rfl ?_
        refine q_goto rfl ?_
        refine q_iret rfl rfl rfl ?_
        refine ⟨_, rfl, ?_⟩
        refine q_ifeq rfl rfl (fun c25 => absurd c25 (by decide)) (fun c25 => ?_)
        refine q_aload_n rfl rfl rfl ?_
        refine q_getf rfl rfl (by decide) (FW_0 S hW) rfl ?_
        refine q_iload_n rfl rfl rfl ?_
        refine q_nS2 rfl rfl (Or.inl rfl) rfl rfl ⟨rfl, rfl⟩ rfl ?_
        change PQ _ _ _ mm_X0_place 0 [.long 0, pm_un, .int x2] [] _ _ 0 0 _
        refine q_lload_n rfl rfl rfl ?_
        refine q_bipush rfl rfl ?_
        refine q_iconst rfl rfl ?_
        refine q_iload_n rfl rfl rfl ?_
        rcases i_en3 (i_nlt c2) (i_ltle (i_nle c13) (B := 3) rfl) with rfl | rfl | rfl | rfl
        · refine q_imul rfl rfl (q_tn (z := 0) rfl ?_)
          refine q_iadd rfl rfl (q_tn (z := 36) rfl ?_)
          refine q_lushr rfl rfl (q_tnl (z := 0) rfl ?_)
          refine q_l2i rfl rfl (q_tn (z := 0) rfl ?_)
          refine q_bipush rfl rfl ?_
          refine q_iand rfl rfl (q_tn (z := 0) rfl ?_)
          refine q_iret rfl rfl trivial ?_
          refine ⟨_, rfl, ?_⟩
          refine q_goto rfl ?_
          refine q_iret rfl rfl trivial ?_
          refine ⟨_, rfl, ?_⟩
          refine q_aload_n rfl rfl rfl ?_
          refine q_aload_nF rfl rfl rfl ?_
          refine q_iload rfl rfl rfl ?_
          refine q_iconst rfl rfl ?_
          refine q_iadd rfl rfl (q_tn (z := 1) rfl ?_)
          refine q_ialdX (x := 5) rfl rfl rfl hx1 ?_
          refine q_aload_nF rfl rfl rfl ?_
          refine q_iload rfl rfl rfl ?_
          refine q_iconst rfl rfl ?_
          refine q_iadd rfl rfl (q_tn (z := 2) rfl ?_)
          refine q_ialdX (x := 0) rfl rfl rfl hx2 ?_
          refine q_nV2 rfl rfl (Or.inl rfl) rfl rfl rfl (by decide) (FW_46 S hW) ⟨rfl, rfl⟩ rfl ?_
          change PQ _ _ _ mm_X12_see 0 [.ref 46, .int 5, .int 0] [] _ _ 0 0 _
          refine q_aload_n rfl rfl rfl ?_
          refine q_iload_n rfl rfl rfl ?_
          refine q_iconst rfl rfl ?_
          refine q_bipush rfl rfl ?_
          refine q_nV3 rfl rfl (Or.inl rfl) rfl rfl rfl (by decide) (FW_46 S hW) ⟨rfl, rfl⟩ rfl ?_
          change PQ _ _ _ mm_X12_in 0 [.ref 46, .int 5, .int 0, .int 6] [] _ _ 0 0 _
          refine q_iload_n rfl rfl rfl ?_
          refine q_iload_n rfl rfl rfl ?_
          refine q_iclt rfl rfl (fun c26 => absurd c26 (by decide)) (fun c26 => ?_)
          refine q_iload_n rfl rfl rfl ?_
          refine q_iload_n rfl rfl rfl ?_
          refine q_icgt rfl rfl (fun c27 => absurd c27 (by decide)) (fun c27 => ?_)
          refine q_iconst rfl rfl ?_
          refine q_goto rfl ?_
          refine q_iret rfl rfl rfl ?_
          refine ⟨_, rfl, ?_⟩
          refine q_ifeq rfl rfl (fun c28 => absurd c28 (by decide)) (fun c28 => ?_)
          refine q_iload_n rfl rfl rfl ?_
          refine q_iconst rfl rfl ?_
          refine q_icge rfl rfl (fun c29 => ?_) (fun c29 => absurd (by decide) c29)
          refine q_aload_n rfl rfl rfl ?_
          refine q_iload_n rfl rfl rfl ?_
          refine q_iconst rfl rfl ?_
          refine q_iload_n rfl rfl rfl ?_
          refine q_iconst rfl rfl ?_
          refine q_icne rfl rfl (fun c30 => ?_) (fun c30 => absurd (by decide) c30)
          refine q_iconst rfl rfl ?_
          refine q_goto rfl ?_
          refine q_nV3 rfl rfl (Or.inl rfl) rfl rfl rfl (by decide) (FW_46 S hW) ⟨rfl, rfl⟩ rfl ?_
          change PQ _ _ _ mm_X12_in 0 [.ref 46, .int 0, .int 0, .int 3] [] _ _ 0 0 _
          refine q_iload_n rfl rfl rfl ?_
          refine q_iload_n rfl rfl rfl ?_
          refine q_iclt rfl rfl (fun c31 => absurd c31 (by decide)) (fun c31 => ?_)
          refine q_iload_n rfl rfl rfl ?_
          refine q_iload_n rfl rfl rfl ?_
          refine q_icgt rfl rfl (fun c32 => absurd c32 (by decide)) (fun c32 => ?_)
          refine q_iconst rfl rfl ?_
          refine q_goto rfl ?_
          refine q_iret rfl rfl rfl ?_
          refine ⟨_, rfl, ?_⟩
          refine q_ifne rfl rfl (fun c33 => absurd c33 (by decide)) (fun c33 => ?_)
          refine q_aload_n rfl rfl rfl ?_
          refine q_nV0v rfl rfl (Or.inl rfl) rfl rfl rfl (by decide) (FW_46 S hW) ⟨rfl, rfl⟩ rfl ?_
          change PQ _ _ _ mm_X12_stand 0 [.ref 46, pm_un] [] _ _ 0 0 _
          refine q_aload_n rfl rfl rfl ?_
          refine q_iconst rfl rfl ?_
          refine q_putf rfl rfl (by decide) (FW_46 S hW) (by decide) rfl trivial ?_
          refine q_iconst rfl rfl ?_
          refine q_ist1n rfl rfl rfl rfl ?_
          refine q_iload_n rfl rfl rfl ?_
          refine q_bipush rfl rfl ?_
          refine q_icge rfl rfl (fun c34 => absurd c34 (by decide)) (fun c34 => ?_)
          refine q_aload_n rfl rfl rfl ?_
          refine q_getf rfl rfl (by decide) rfl rfl ?_
          refine q_iload_n rfl rfl rfl ?_
          refine q_aload_n rfl rfl rfl ?_
          refine q_getf rfl rfl (by decide) rfl rfl ?_
          refine q_iload_n rfl rfl rfl ?_
          refine q_iald rfl rfl (by decide) (FW_54 S hW) (by decide) (q_tn (z := 10) rfl ?_)
          refine q_iast rfl rfl (by decide) (FW_52 S hW) (by decide) ?_
          refine q_icc1 (z := 1) rfl rfl rfl rfl rfl ?_
          refine q_goto rfl ?_
          refine q_iload_n rfl rfl rfl ?_
          refine q_bipush rfl rfl ?_
          refine q_icge rfl rfl (fun c35 => absurd c35 (by decide)) (fun c35 => ?_)
          refine q_aload_n rfl rfl rfl ?_
          refine q_getf rfl rfl (by decide) rfl rfl ?_
          refine q_iload_n rfl rfl rfl ?_
          refine q_aload_n rfl rfl rfl ?_
          refine q_getf rfl rfl (by decide) rfl rfl ?_
          refine q_iload_n rfl rfl rfl ?_
          refine q_iald rfl rfl (by decide) (FW_54 S hW) (by decide) (q_tn (z := 0) rfl ?_)
          refine q_iast rfl rfl (by decide) rfl (by decide) ?_
          refine q_icc1 (z := 2) rfl rfl rfl rfl rfl ?_
          refine q_goto rfl ?_
          refine q_iload_n rfl rfl rfl ?_
          refine q_bipush rfl rfl ?_
          refine q_icge rfl rfl (fun c36 => absurd c36 (by decide)) (fun c36 => ?_)
          refine q_aload_n rfl rfl rfl ?_
          refine q_getf rfl rfl (by decide) rfl rfl ?_
          refine q_iload_n rfl rfl rfl ?_
          refine q_aload_n rfl rfl rfl ?_
          refine q_getf rfl rfl (by decide) rfl rfl ?_
          refine q_iload_n rfl rfl rfl ?_
          refine q_iald rfl rfl (by decide) (FW_54 S hW) (by decide) (q_tn (z := 0) rfl ?_)
          refine q_iast rfl rfl (by decide) rfl (by decide) ?_
          refine q_icc1 (z := 3) rfl rfl rfl rfl rfl ?_
          refine q_goto rfl ?_
          refine q_iload_n rfl rfl rfl ?_
          refine q_bipush rfl rfl ?_
          refine q_icge rfl rfl (fun c37 => absurd c37 (by decide)) (fun c37 => ?_)
          refine q_aload_n rfl rfl rfl ?_
          refine q_getf rfl rfl (by decide) rfl rfl ?_
          refine q_iload_n rfl rfl rfl ?_
          refine q_aload_n rfl rfl rfl ?_
          refine q_getf rfl rfl (by decide) rfl rfl ?_
          refine q_iload_n rfl rfl rfl ?_
          refine q_iald rfl rfl (by decide) (FW_54 S hW) (by decide) (q_tn (z := 0) rfl ?_)
          refine q_iast rfl rfl (by decide) rfl (by decide) ?_
          refine q_icc1 (z := 4) rfl rfl rfl rfl rfl ?_
          refine q_goto rfl ?_
          refine q_iload_n rfl rfl rfl ?_
          refine q_bipush rfl rfl ?_
          refine q_icge rfl rfl (fun c38 => absurd c38 (by decide)) (fun c38 => ?_)
          refine q_aload_n rfl rfl rfl ?_
          refine q_getf rfl rfl (by decide) rfl rfl ?_
          refine q_iload_n rfl rfl rfl ?_
          refine q_aload_n rfl rfl rfl ?_
          refine q_getf rfl rfl (by decide) rfl rfl ?_
          refine q_iload_n rfl rfl rfl ?_
          refine q_iald rfl rfl (by decide) (FW_54 S hW) (by decide) (q_tn (z := 0) rfl ?_)
          refine q_iast rfl rfl (by decide) rfl (by decide) ?_
          refine q_icc1 (z := 5) rfl rfl rfl rfl rfl ?_
          refine q_goto rfl ?_
          refine q_iload_n rfl rfl rfl ?_
          refine q_bipush rfl rfl ?_
          refine q_icge rfl rfl (fun c39 => absurd c39 (by decide)) (fun c39 => ?_)
          refine q_aload_n rfl rfl rfl ?_
          refine q_getf rfl rfl (by decide) rfl rfl ?_
          refine q_iload_n rfl rfl rfl ?_
          refine q_aload_n rfl rfl rfl ?_
          refine q_getf rfl rfl (by decide) rfl rfl ?_
          refine q_iload_n rfl rfl rfl ?_
          refine q_iald rfl rfl (by decide) (FW_54 S hW) (by decide) (q_tn (z := 0) rfl ?_)
          refine q_iast rfl rfl (by decide) rfl (by decide) ?_
          refine q_icc1 (z := 6) rfl rfl rfl rfl rfl ?_
          refine q_goto rfl ?_
          refine q_iload_n rfl rfl rfl ?_
          refine q_bipush rfl rfl ?_
          refine q_icge rfl rfl (fun c40 => absurd c40 (by decide)) (fun c40 => ?_)
          refine q_aload_n rfl rfl rfl ?_
          refine q_getf rfl rfl (by decide) rfl rfl ?_
          refine q_iload_n rfl rfl rfl ?_
          refine q_aload_n rfl rfl rfl ?_
          refine q_getf rfl rfl (by decide) rfl rfl ?_
          refine q_iload_n rfl rfl rfl ?_
          refine q_iald rfl rfl (by decide) (FW_54 S hW) (by decide) (q_tn (z := 0) rfl ?_)
          refine q_iast rfl rfl (by decide) rfl (by decide) ?_
          refine q_icc1 (z := 7) rfl rfl rfl rfl rfl ?_
          refine q_goto rfl ?_
          refine q_iload_n rfl rfl rfl ?_
          refine q_bipush rfl rfl ?_
          refine q_icge rfl rfl (fun c41 => absurd c41 (by decide)) (fun c41 => ?_)
          refine q_aload_n rfl rfl rfl ?_
          refine q_getf rfl rfl (by decide) rfl rfl ?_
          refine q_iload_n rfl rfl rfl ?_
          refine q_aload_n rfl rfl rfl ?_
          refine q_getf rfl rfl (by decide) rfl rfl ?_
          refine q_iload_n rfl rfl rfl ?_
          refine q_iald rfl rfl (by decide) (FW_54 S hW) (by decide) (q_tn (z := 0) rfl ?_)
          refine q_iast rfl rfl (by decide) rfl (by decide) ?_
          refine q_icc1 (z := 8) rfl rfl rfl rfl rfl ?_
          refine q_goto rfl ?_
          refine q_iload_n rfl rfl rfl ?_
          refine q_bipush rfl rfl ?_
          refine q_icge rfl rfl (fun c42 => absurd c42 (by decide)) (fun c42 => ?_)
          refine q_aload_n rfl rfl rfl ?_
          refine q_getf rfl rfl (by decide) rfl rfl ?_
          refine q_iload_n rfl rfl rfl ?_
          refine q_aload_n rfl rfl rfl ?_
          refine q_getf rfl rfl (by decide) rfl rfl ?_
          refine q_iload_n rfl rfl rfl ?_
          refine q_iald rfl rfl (by decide) (FW_54 S hW) (by decide) (q_tn (z := 0) rfl ?_)
          refine q_iast rfl rfl (by decide) rfl (by decide) ?_
          refine q_icc1 (z := 9) rfl rfl rfl rfl rfl ?_
          refine q_goto rfl ?_
          refine q_iload_n rfl rfl rfl ?_
          refine q_bipush rfl rfl ?_
          refine q_icge rfl rfl (fun c43 => absurd c43 (by decide)) (fun c43 => ?_)
          refine q_aload_n rfl rfl rfl ?_
          refine q_getf rfl rfl (by decide) rfl rfl ?_
          refine q_iload_n rfl rfl rfl ?_
          refine q_aload_n rfl rfl rfl ?_
          refine q_getf rfl rfl (by decide) rfl rfl ?_
          refine q_iload_n rfl rfl rfl ?_
          refine q_iald rfl rfl (by decide) (FW_54 S hW) (by decide) (q_tn (z := 0) rfl ?_)
          refine q_iast rfl rfl (by decide) rfl (by decide) ?_
          refine q_icc1 (z := 10) rfl rfl rfl rfl rfl ?_
          refine q_goto rfl ?_
          refine q_iload_n rfl rfl rfl ?_
          refine q_bipush rfl rfl ?_
          refine q_icge rfl rfl (fun c44 => absurd c44 (by decide)) (fun c44 => ?_)
          refine q_aload_n rfl rfl rfl ?_
          refine q_getf rfl rfl (by decide) rfl rfl ?_
          refine q_iload_n rfl rfl rfl ?_
          refine q_aload_n rfl rfl rfl ?_
          refine q_getf rfl rfl (by decide) rfl rfl ?_
          refine q_iload_n rfl rfl rfl ?_
          refine q_iald rfl rfl (by decide) (FW_54 S hW) (by decide) (q_tn (z := 0) rfl ?_)
          refine q_iast rfl rfl (by decide) rfl (by decide) ?_
          refine q_icc1 (z := 11) rfl rfl rfl rfl rfl ?_
          refine q_goto rfl ?_
          refine q_iload_n rfl rfl rfl ?_
          refine q_bipush rfl rfl ?_
          refine q_icge rfl rfl (fun c45 => absurd c45 (by decide)) (fun c45 => ?_)
          refine q_aload_n rfl rfl rfl ?_
          refine q_getf rfl rfl (by decide) rfl rfl ?_
          refine q_iload_n rfl rfl rfl ?_
          refine q_aload_n rfl rfl rfl ?_
          refine q_getf rfl rfl (by decide) rfl rfl ?_
          refine q_iload_n rfl rfl rfl ?_
          refine q_iald rfl rfl (by decide) (FW_54 S hW) (by decide) (q_tn (z := 0) rfl ?_)
          refine q_iast rfl rfl (by decide) rfl (by decide) ?_
          refine q_icc1 (z := 12) rfl rfl rfl rfl rfl ?_
          refine q_goto rfl ?_
          refine q_iload_n rfl rfl rfl ?_
          refine q_bipush rfl rfl ?_
          refine q_icge rfl rfl (fun c46 => absurd c46 (by decide)) (fun c46 => ?_)
          refine q_aload_n rfl rfl rfl ?_
          refine q_getf rfl rfl (by decide) rfl rfl ?_
          refine q_iload_n rfl rfl rfl ?_
          refine q_aload_n rfl rfl rfl ?_
          refine q_getf rfl rfl (by decide) rfl rfl ?_
          refine q_iload_n rfl rfl rfl ?_
          refine q_iald rfl rfl (by decide) (FW_54 S hW) (by decide) (q_tn (z := 0) rfl ?_)
          refine q_iast rfl rfl (by decide) rfl (by decide) ?_
          refine q_icc1 (z := 13) rfl rfl rfl rfl rfl ?_
          refine q_goto rfl ?_
          refine q_iload_n rfl rfl rfl ?_
          refine q_bipush rfl rfl ?_
          refine q_icge rfl rfl (fun c47 => absurd c47 (by decide)) (fun c47 => ?_)
          refine q_aload_n rfl rfl rfl ?_
          refine q_getf rfl rfl (by decide) rfl rfl ?_
          refine q_iload_n rfl rfl rfl ?_
          refine q_aload_n rfl rfl rfl ?_
          refine q_getf rfl rfl (by decide) rfl rfl ?_
          refine q_iload_n rfl rfl rfl ?_
          refine q_iald rfl rfl (by decide) (FW_54 S hW) (by decide) (q_tn (z := 0) rfl ?_)
          refine q_iast rfl rfl (by decide) rfl (by decide) ?_
          refine q_icc1 (z := 14) rfl rfl rfl rfl rfl ?_
          refine q_goto rfl ?_
          refine q_iload_n rfl rfl rfl ?_
          refine q_bipush rfl rfl ?_
          refine q_icge rfl rfl (fun c48 => absurd c48 (by decide)) (fun c48 => ?_)
          refine q_aload_n rfl rfl rfl ?_
          refine q_getf rfl rfl (by decide) rfl rfl ?_
          refine q_iload_n rfl rfl rfl ?_
          refine q_aload_n rfl rfl rfl ?_
          refine q_getf rfl rfl (by decide) rfl rfl ?_
          refine q_iload_n rfl rfl rfl ?_
          refine q_iald rfl rfl (by decide) (FW_54 S hW) (by decide) (q_tn (z := 0) rfl ?_)
          refine q_iast rfl rfl (by decide) rfl (by decide) ?_
          refine q_icc1 (z := 15) rfl rfl rfl rfl rfl ?_
          refine q_goto rfl ?_
          refine q_iload_n rfl rfl rfl ?_
          refine q_bipush rfl rfl ?_
          refine q_icge rfl rfl (fun c49 => absurd c49 (by decide)) (fun c49 => ?_)
          refine q_aload_n rfl rfl rfl ?_
          refine q_getf rfl rfl (by decide) rfl rfl ?_
          refine q_iload_n rfl rfl rfl ?_
          refine q_aload_n rfl rfl rfl ?_
          refine q_getf rfl rfl (by decide) rfl rfl ?_
          refine q_iload_n rfl rfl rfl ?_
          refine q_iald rfl rfl (by decide) (FW_54 S hW) (by decide) (q_tn (z := 0) rfl ?_)
          refine q_iast rfl rfl (by decide) rfl (by decide) ?_
          refine q_icc1 (z := 16) rfl rfl rfl rfl rfl ?_
          refine q_goto rfl ?_
          refine q_iload_n rfl rfl rfl ?_
          refine q_bipush rfl rfl ?_
          refine q_icge rfl rfl (fun c50 => absurd c50 (by decide)) (fun c50 => ?_)
          refine q_aload_n rfl rfl rfl ?_
          refine q_getf rfl rfl (by decide) rfl rfl ?_
          refine q_iload_n rfl rfl rfl ?_
          refine q_aload_n rfl rfl rfl ?_
          refine q_getf rfl rfl (by decide) rfl rfl ?_
          refine q_iload_n rfl rfl rfl ?_
          refine q_iald rfl rfl (by decide) (FW_54 S hW) (by decide) (q_tn (z := 0) rfl ?_)
          refine q_iast rfl rfl (by decide) rfl (by decide) ?_
          refine q_icc1 (z := 17) rfl rfl rfl rfl rfl ?_
          refine q_goto rfl ?_
          refine q_iload_n rfl rfl rfl ?_
          refine q_bipush rfl rfl ?_
          refine q_icge rfl rfl (fun c51 => absurd c51 (by decide)) (fun c51 => ?_)
          refine q_aload_n rfl rfl rfl ?_
          refine q_getf rfl rfl (by decide) rfl rfl ?_
          refine q_iload_n rfl rfl rfl ?_
          refine q_aload_n rfl rfl rfl ?_
          refine q_getf rfl rfl (by decide) rfl rfl ?_
          refine q_iload_n rfl rfl rfl ?_
          refine q_iald rfl rfl (by decide) (FW_54 S hW) (by decide) (q_tn (z := 0) rfl ?_)
          refine q_iast rfl rfl (by decide) rfl (by decide) ?_
          refine q_icc1 (z := 18) rfl rfl rfl rfl rfl ?_
          refine q_goto rfl ?_
          refine q_iload_n rfl rfl rfl ?_
          refine q_bipush rfl rfl ?_
          refine q_icge rfl rfl (fun c52 => absurd c52 (by decide)) (fun c52 => ?_)
          refine q_aload_n rfl rfl rfl ?_
          refine q_getf rfl rfl (by decide) rfl rfl ?_
          refine q_iload_n rfl rfl rfl ?_
          refine q_aload_n rfl rfl rfl ?_
          refine q_getf rfl rfl (by decide) rfl rfl ?_
          refine q_iload_n rfl rfl rfl ?_
          refine q_iald rfl rfl (by decide) (FW_54 S hW) (by decide) (q_tn (z := 0) rfl ?_)
          refine q_iast rfl rfl (by decide) rfl (by decide) ?_
          refine q_icc1 (z := 19) rfl rfl rfl rfl rfl ?_
          refine q_goto rfl ?_
          refine q_iload_n rfl rfl rfl ?_
          refine q_bipush rfl rfl ?_
          refine q_icge rfl rfl (fun c53 => absurd c53 (by decide)) (fun c53 => ?_)
          refine q_aload_n rfl rfl rfl ?_
          refine q_getf rfl rfl (by decide) rfl rfl ?_
          refine q_iload_n rfl rfl rfl ?_
          refine q_aload_n rfl rfl rfl ?_
          refine q_getf rfl rfl (by decide) rfl rfl ?_
          refine q_iload_n rfl rfl rfl ?_
          refine q_iald rfl rfl (by decide) (FW_54 S hW) (by decide) (q_tn (z := 0) rfl ?_)
          refine q_iast rfl rfl (by decide) rfl (by decide) ?_
          refine q_icc1 (z := 20) rfl rfl rfl rfl rfl ?_
          refine q_goto rfl ?_
          refine q_iload_n rfl rfl rfl ?_
          refine q_bipush rfl rfl ?_
          refine q_icge rfl rfl (fun c54 => ?_) (fun c54 => absurd (by decide) c54)
          refine q_ret rfl rfl ?_
          refine ⟨rfl, ?_⟩
          refine q_iload_n rfl rfl rfl ?_
          refine q_switch (q := 149) rfl rfl ?_
          refine q_aload_n rfl rfl rfl ?_
          refine q_getf rfl rfl (by decide) rfl rfl ?_
          refine q_bipush rfl rfl ?_
          refine q_iload_n rfl rfl rfl ?_
          refine q_iadd rfl rfl (q_tn (z := 12) rfl ?_)
          refine q_iald rfl rfl (by decide) (FW_54 S hW) (by decide) (q_tn (z := 0) rfl ?_)
          refine q_iret rfl rfl trivial ?_
          refine ⟨_, rfl, ?_⟩
          refine q_iceq rfl rfl (fun c55 => ?_) (fun c55 => absurd (by decide) c55)
          refine q_icc4 (z := 6) rfl rfl rfl rfl rfl ?_
          refine q_goto rfl ?_
          refine q_iload rfl rfl rfl ?_
          refine q_aload_nF rfl rfl rfl ?_
          refine q_alenX (x := 6) rfl rfl rfl ?_
          refine q_bipush rfl rfl ?_
          refine q_isub rfl rfl (q_tn (z := 0) rfl ?_)
          refine q_icgt rfl rfl (fun c56 => ?_) (fun c56 => absurd (by decide) c56)
          refine q_iconst rfl rfl ?_
          refine q_iret rfl rfl rfl ?_
          exact hK _ _
        · refine q_imul rfl rfl (q_tn (z := 4) rfl ?_)
          refine q_iadd rfl rfl (q_tn (z := 40) rfl ?_)
          refine q_lushr rfl rfl (q_tnl (z := 0) rfl ?_)
          refine q_l2i rfl rfl (q_tn (z := 0) rfl ?_)
          refine q_bipush rfl rfl ?_
          refine q_iand rfl rfl (q_tn (z := 0) rfl ?_)
          refine q_iret rfl rfl trivial ?_
          refine ⟨_, rfl, ?_⟩
          refine q_goto rfl ?_
          refine q_iret rfl rfl trivial ?_
          refine ⟨_, rfl, ?_⟩
          refine q_aload_n rfl rfl rfl ?_
          refine q_aload_nF rfl rfl rfl ?_
          refine q_iload rfl rfl rfl ?_
          refine q_iconst rfl rfl ?_
          refine q_iadd rfl rfl (q_tn (z := 1) rfl ?_)
          refine q_ialdX (x := 5) rfl rfl rfl hx1 ?_
          refine q_aload_nF rfl rfl rfl ?_
          refine q_iload rfl rfl rfl ?_
          refine q_iconst rfl rfl ?_
          refine q_iadd rfl rfl (q_tn (z := 2) rfl ?_)
          refine q_ialdX (x := 1) rfl rfl rfl hx2 ?_
          refine q_nV2 rfl rfl (Or.inl rfl) rfl rfl rfl (by decide) (FW_46 S hW) ⟨rfl, rfl⟩ rfl ?_
          change PQ _ _ _ mm_X12_see 0 [.ref 46, .int 5, .int 1] [] _ _ 0 0 _
          refine q_aload_n rfl rfl rfl ?_
          refine q_iload_n rfl rfl rfl ?_
          refine q_iconst rfl rfl ?_
          refine q_bipush rfl rfl ?_
          refine q_nV3 rfl rfl (Or.inl rfl) rfl rfl rfl (by decide) (FW_46 S hW) ⟨rfl, rfl⟩ rfl ?_
          change PQ _ _ _ mm_X12_in 0 [.ref 46, .int 5, .int 0, .int 6] [] _ _ 0 0 _
          refine q_iload_n rfl rfl rfl ?_
          refine q_iload_n rfl rfl rfl ?_
          refine q_iclt rfl rfl (fun c57 => absurd c57 (by decide)) (fun c57 => ?_)
          refine q_iload_n rfl rfl rfl ?_
          refine q_iload_n rfl rfl rfl ?_
          refine q_icgt rfl rfl (fun c58 => absurd c58 (by decide)) (fun c58 => ?_)
          refine q_iconst rfl rfl ?_
          refine q_goto rfl ?_
          refine q_iret rfl rfl rfl ?_
          refine ⟨_, rfl, ?_⟩
          refine q_ifeq rfl rfl (fun c59 => absurd c59 (by decide)) (fun c59 => ?_)
          refine q_iload_n rfl rfl rfl ?_
          refine q_iconst rfl rfl ?_
          refine q_icge rfl rfl (fun c60 => ?_) (fun c60 => absurd (by decide) c60)
          refine q_aload_n rfl rfl rfl ?_
          refine q_iload_n rfl rfl rfl ?_
          refine q_iconst rfl rfl ?_
          refine q_iload_n rfl rfl rfl ?_
          refine q_iconst rfl rfl ?_
          refine q_icne rfl rfl (fun c61 => ?_) (fun c61 => absurd (by decide) c61)
          refine q_iconst rfl rfl ?_
          refine q_goto rfl ?_
          refine q_nV3 rfl rfl (Or.inl rfl) rfl rfl rfl (by decide) (FW_46 S hW) ⟨rfl, rfl⟩ rfl ?_
          change PQ _ _ _ mm_X12_in 0 [.ref 46, .int 1, .int 0, .int 3] [] _ _ 0 0 _
          refine q_iload_n rfl rfl rfl ?_
          refine q_iload_n rfl rfl rfl ?_
          refine q_iclt rfl rfl (fun c62 => absurd c62 (by decide)) (fun c62 => ?_)
          refine q_iload_n rfl rfl rfl ?_
          refine q_iload_n rfl rfl rfl ?_
          refine q_icgt rfl rfl (fun c63 => absurd c63 (by decide)) (fun c63 => ?_)
          refine q_iconst rfl rfl ?_
          refine q_goto rfl ?_
          refine q_iret rfl rfl rfl ?_
          refine ⟨_, rfl, ?_⟩
          refine q_ifne rfl rfl (fun c64 => absurd c64 (by decide)) (fun c64 => ?_)
          refine q_aload_n rfl rfl rfl ?_
          refine q_nV0v rfl rfl (Or.inl rfl) rfl rfl rfl (by decide) (FW_46 S hW) ⟨rfl, rfl⟩ rfl ?_
          change PQ _ _ _ mm_X12_stand 0 [.ref 46, pm_un] [] _ _ 0 0 _
          refine q_aload_n rfl rfl rfl ?_
          refine q_iconst rfl rfl ?_
          refine q_putf rfl rfl (by decide) (FW_46 S hW) (by decide) rfl trivial ?_
          refine q_iconst rfl rfl ?_
          refine q_ist1n rfl rfl rfl rfl ?_
          refine q_iload_n rfl rfl rfl ?_
          refine q_bipush rfl rfl ?_
          refine q_icge rfl rfl (fun c65 => absurd c65 (by decide)) (fun c65 => ?_)
          refine q_aload_n rfl rfl rfl ?_
          refine q_getf rfl rfl (by decide) rfl rfl ?_
          refine q_iload_n rfl rfl rfl ?_
          refine q_aload_n rfl rfl rfl ?_
          refine q_getf rfl rfl (by decide) rfl rfl ?_
          refine q_iload_n rfl rfl rfl ?_
          refine q_iald rfl rfl (by decide) (FW_54 S hW) (by decide) (q_tn (z := 10) rfl ?_)
          refine q_iast rfl rfl (by decide) (FW_52 S hW) (by decide) ?_
          refine q_icc1 (z := 1) rfl rfl rfl rfl rfl ?_
          refine q_goto rfl ?_
          refine q_iload_n rfl rfl rfl ?_
          refine q_bipush rfl rfl ?_
          refine q_icge rfl rfl (fun c66 => absurd c66 (by decide)) (fun c66 => ?_)
          refine q_aload_n rfl rfl rfl ?_
          refine q_getf rfl rfl (by decide) rfl rfl ?_
          refine q_iload_n rfl rfl rfl ?_
          refine q_aload_n rfl rfl rfl ?_
          refine q_getf rfl rfl (by decide) rfl rfl ?_
          refine q_iload_n rfl rfl rfl ?_
          refine q_iald rfl rfl (by decide) (FW_54 S hW) (by decide) (q_tn (z := 0) rfl ?_)
          refine q_iast rfl rfl (by decide) rfl (by decide) ?_
          refine q_icc1 (z := 2) rfl rfl rfl rfl rfl ?_
          refine q_goto rfl ?_
          refine q_iload_n rfl rfl rfl ?_
          refine q_bipush rfl rfl ?_
          refine q_icge rfl rfl (fun c67 => absurd c67 (by decide)) (fun c67 => ?_)
          refine q_aload_n rfl rfl rfl ?_
          refine q_getf rfl rfl (by decide) rfl rfl ?_
          refine q_iload_n rfl rfl rfl ?_
          refine q_aload_n rfl rfl rfl ?_
          refine q_getf rfl rfl (by decide) rfl rfl ?_
          refine q_iload_n rfl rfl rfl ?_
          refine q_iald rfl rfl (by decide) (FW_54 S hW) (by decide) (q_tn (z := 0) rfl ?_)
          refine q_iast rfl rfl (by decide) rfl (by decide) ?_
          refine q_icc1 (z := 3) rfl rfl rfl rfl rfl ?_
          refine q_goto rfl ?_
          refine q_iload_n rfl rfl rfl ?_
          refine q_bipush rfl rfl ?_
          refine q_icge rfl rfl (fun c68 => absurd c68 (by decide)) (fun c68 => ?_)
          refine q_aload_n rfl rfl rfl ?_
          refine q_getf rfl rfl (by decide) rfl rfl ?_
          refine q_iload_n rfl rfl rfl ?_
          refine q_aload_n rfl rfl rfl ?_
          refine q_getf rfl rfl (by decide) rfl rfl ?_
          refine q_iload_n rfl rfl rfl ?_
          refine q_iald rfl rfl (by decide) (FW_54 S hW) (by decide) (q_tn (z := 0) rfl ?_)
          refine q_iast rfl rfl (by decide) rfl (by decide) ?_
          refine q_icc1 (z := 4) rfl rfl rfl rfl rfl ?_
          refine q_goto rfl ?_
          refine q_iload_n rfl rfl rfl ?_
          refine q_bipush rfl rfl ?_
          refine q_icge rfl rfl (fun c69 => absurd c69 (by decide)) (fun c69 => ?_)
          refine q_aload_n rfl rfl rfl ?_
          refine q_getf rfl rfl (by decide) rfl rfl ?_
          refine q_iload_n rfl rfl rfl ?_
          refine q_aload_n rfl rfl rfl ?_
          refine q_getf rfl rfl (by decide) rfl rfl ?_
          refine q_iload_n rfl rfl rfl ?_
          refine q_iald rfl rfl (by decide) (FW_54 S hW) (by decide) (q_tn (z := 0) rfl ?_)
          refine q_iast rfl rfl (by decide) rfl (by decide) ?_
          refine q_icc1 (z := 5) rfl rfl rfl rfl rfl ?_
          refine q_goto rfl ?_
          refine q_iload_n rfl rfl rfl ?_
          refine q_bipush rfl rfl ?_
          refine q_icge rfl rfl (fun c70 => absurd c70 (by decide)) (fun c70 => ?_)
          refine q_aload_n rfl rfl rfl ?_
          refine q_getf rfl rfl (by decide) rfl rfl ?_
          refine q_iload_n rfl rfl rfl ?_
          refine q_aload_n rfl rfl rfl ?_
          refine q_getf rfl rfl (by decide) rfl rfl ?_
          refine q_iload_n rfl rfl rfl ?_
          refine q_iald rfl rfl (by decide) (FW_54 S hW) (by decide) (q_tn (z := 0) rfl ?_)
          refine q_iast rfl rfl (by decide) rfl (by decide) ?_
          refine q_icc1 (z := 6) rfl rfl rfl rfl rfl ?_
          refine q_goto rfl ?_
          refine q_iload_n rfl rfl rfl ?_
          refine q_bipush rfl rfl ?_
          refine q_icge rfl rfl (fun c71 => absurd c71 (by decide)) (fun c71 => ?_)
          refine q_aload_n rfl rfl rfl ?_
          refine q_getf rfl rfl (by decide) rfl rfl ?_
          refine q_iload_n rfl rfl rfl ?_
          refine q_aload_n rfl rfl rfl ?_
          refine q_getf rfl rfl (by decide) rfl rfl ?_
          refine q_iload_n rfl rfl rfl ?_
          refine q_iald rfl rfl (by decide) (FW_54 S hW) (by decide) (q_tn (z := 0) rfl ?_)
          refine q_iast rfl rfl (by decide) rfl (by decide) ?_
          refine q_icc1 (z := 7) rfl rfl rfl rfl rfl ?_
          refine q_goto rfl ?_
          refine q_iload_n rfl rfl rfl ?_
          refine q_bipush rfl rfl ?_
          refine q_icge rfl rfl (fun c72 => absurd c72 (by decide)) (fun c72 => ?_)
          refine q_aload_n rfl rfl rfl ?_
          refine q_getf rfl rfl (by decide) rfl rfl ?_
          refine q_iload_n rfl rfl rfl ?_
          refine q_aload_n rfl rfl rfl ?_
          refine q_getf rfl rfl (by decide) rfl rfl ?_
          refine q_iload_n rfl rfl rfl ?_
          refine q_iald rfl rfl (by decide) (FW_54 S hW) (by decide) (q_tn (z := 0) rfl ?_)
          refine q_iast rfl rfl (by decide) rfl (by decide) ?_
          refine q_icc1 (z := 8) rfl rfl rfl rfl rfl ?_
          refine q_goto rfl ?_
          refine q_iload_n rfl rfl rfl ?_
          refine q_bipush rfl rfl ?_
          refine q_icge rfl rfl (fun c73 => absurd c73 (by decide)) (fun c73 => ?_)
          refine q_aload_n rfl rfl rfl ?_
          refine q_getf rfl rfl (by decide) rfl rfl ?_
          refine q_iload_n rfl rfl rfl ?_
          refine q_aload_n rfl rfl rfl ?_
          refine q_getf rfl rfl (by decide) rfl rfl ?_
          refine q_iload_n rfl rfl rfl ?_
          refine q_iald rfl rfl (by decide) (FW_54 S hW) (by decide) (q_tn (z := 0) rfl ?_)
          refine q_iast rfl rfl (by decide) rfl (by decide) ?_
          refine q_icc1 (z := 9) rfl rfl rfl rfl rfl ?_
          refine q_goto rfl ?_
          refine q_iload_n rfl rfl rfl ?_
          refine q_bipush rfl rfl ?_
          refine q_icge rfl rfl (fun c74 => absurd c74 (by decide)) (fun c74 => ?_)
          refine q_aload_n rfl rfl rfl ?_
          refine q_getf rfl rfl (by decide) rfl rfl ?_
          refine q_iload_n rfl rfl rfl ?_
          refine q_aload_n rfl rfl rfl ?_
          refine q_getf rfl rfl (by decide) rfl rfl ?_
          refine q_iload_n rfl rfl rfl ?_
          refine q_iald rfl rfl (by decide) (FW_54 S hW) (by decide) (q_tn (z := 0) rfl ?_)
          refine q_iast rfl rfl (by decide) rfl (by decide) ?_
          refine q_icc1 (z := 10) rfl rfl rfl rfl rfl ?_
          refine q_goto rfl ?_
          refine q_iload_n rfl rfl rfl ?_
          refine q_bipush rfl rfl ?_
          refine q_icge rfl rfl (fun c75 => absurd c75 (by decide)) (fun c75 => ?_)
          refine q_aload_n rfl rfl rfl ?_
          refine q_getf rfl rfl (by decide) rfl rfl ?_
          refine q_iload_n rfl rfl rfl ?_
          refine q_aload_n rfl rfl rfl ?_
          refine q_getf rfl rfl (by decide) rfl rfl ?_
          refine q_iload_n rfl rfl rfl ?_
          refine q_iald rfl rfl (by decide) (FW_54 S hW) (by decide) (q_tn (z := 0) rfl ?_)
          refine q_iast rfl rfl (by decide) rfl (by decide) ?_
          refine q_icc1 (z := 11) rfl rfl rfl rfl rfl ?_
          refine q_goto rfl ?_
          refine q_iload_n rfl rfl rfl ?_
          refine q_bipush rfl rfl ?_
          refine q_icge rfl rfl (fun c76 => absurd c76 (by decide)) (fun c76 => ?_)
          refine q_aload_n rfl rfl rfl ?_
          refine q_getf rfl rfl (by decide) rfl rfl ?_
          refine q_iload_n rfl rfl rfl ?_
          refine q_aload_n rfl rfl rfl ?_
          refine q_getf rfl rfl (by decide) rfl rfl ?_
          refine q_iload_n rfl rfl rfl ?_
          refine q_iald rfl rfl (by decide) (FW_54 S hW) (by decide) (q_tn (z := 0) rfl ?_)
          refine q_iast rfl rfl (by decide) rfl (by decide) ?_
          refine q_icc1 (z := 12) rfl rfl rfl rfl rfl ?_
          refine q_goto rfl ?_
          refine q_iload_n rfl rfl rfl ?_
          refine q_bipush rfl rfl ?_
          refine q_icge rfl rfl (fun c77 => absurd c77 (by decide)) (fun c77 => ?_)
          refine q_aload_n rfl rfl rfl ?_
          refine q_getf rfl rfl (by decide) rfl rfl ?_
          refine q_iload_n rfl rfl rfl ?_
          refine q_aload_n rfl rfl rfl ?_
          refine q_getf rfl rfl (by decide) rfl rfl ?_
          refine q_iload_n rfl rfl rfl ?_
          refine q_iald rfl rfl (by decide) (FW_54 S hW) (by decide) (q_tn (z := 0) rfl ?_)
          refine q_iast rfl rfl (by decide) rfl (by decide) ?_
          refine q_icc1 (z := 13) rfl rfl rfl rfl rfl ?_
          refine q_goto rfl ?_
          refine q_iload_n rfl rfl rfl ?_
          refine q_bipush rfl rfl ?_
          refine q_icge rfl rfl (fun c78 => absurd c78 (by decide)) (fun c78 => ?_)
          refine q_aload_n rfl rfl rfl ?_
          refine q_getf rfl rfl (by decide) rfl rfl ?_
          refine q_iload_n rfl rfl rfl ?_
          refine q_aload_n rfl rfl rfl ?_
          refine q_getf rfl rfl (by decide) rfl rfl ?_
          refine q_iload_n rfl rfl rfl ?_
          refine q_iald rfl rfl (by decide) (FW_54 S hW) (by decide) (q_tn (z := 0) rfl ?_)
          refine q_iast rfl rfl (by decide) rfl (by decide) ?_
          refine q_icc1 (z := 14) rfl rfl rfl rfl rfl ?_
          refine q_goto rfl ?_
          refine q_iload_n rfl rfl rfl ?_
          refine q_bipush rfl rfl ?_
          refine q_icge rfl rfl (fun c79 => absurd c79 (by decide)) (fun c79 => ?_)
          refine q_aload_n rfl rfl rfl ?_
          refine q_getf rfl rfl (by decide) rfl rfl ?_
          refine q_iload_n rfl rfl rfl ?_
          refine q_aload_n rfl rfl rfl ?_
          refine q_getf rfl rfl (by decide) rfl rfl ?_
          refine q_iload_n rfl rfl rfl ?_
          refine q_iald rfl rfl (by decide) (FW_54 S hW) (by decide) (q_tn (z := 0) rfl ?_)
          refine q_iast rfl rfl (by decide) rfl (by decide) ?_
          refine q_icc1 (z := 15) rfl rfl rfl rfl rfl ?_
          refine q_goto rfl ?_
          refine q_iload_n rfl rfl rfl ?_
          refine q_bipush rfl rfl ?_
          refine q_icge rfl rfl (fun c80 => absurd c80 (by decide)) (fun c80 => ?_)
          refine q_aload_n rfl rfl rfl ?_
          refine q_getf rfl rfl (by decide) rfl rfl ?_
          refine q_iload_n rfl rfl rfl ?_
          refine q_aload_n rfl rfl rfl ?_
          refine q_getf rfl rfl (by decide) rfl rfl ?_
          refine q_iload_n rfl rfl rfl ?_
          refine q_iald rfl rfl (by decide) (FW_54 S hW) (by decide) (q_tn (z := 0) rfl ?_)
          refine q_iast rfl rfl (by decide) rfl (by decide) ?_
          refine q_icc1 (z := 16) rfl rfl rfl rfl rfl ?_
          refine q_goto rfl ?_
          refine q_iload_n rfl rfl rfl ?_
          refine q_bipush rfl rfl ?_
          refine q_icge rfl rfl (fun c81 => absurd c81 (by decide)) (fun c81 => ?_)
          refine q_aload_n rfl rfl rfl ?_
          refine q_getf rfl rfl (by decide) rfl rfl ?_
          refine q_iload_n rfl rfl rfl ?_
          refine q_aload_n rfl rfl rfl ?_
          refine q_getf rfl rfl (by decide) rfl rfl ?_
          refine q_iload_n rfl rfl rfl ?_
          refine q_iald rfl rfl (by decide) (FW_54 S hW) (by decide) (q_tn (z := 0) rfl ?_)
          refine q_iast rfl rfl (by decide) rfl (by decide) ?_
          refine q_icc1 (z := 17) rfl rfl rfl rfl rfl ?_
          refine q_goto rfl ?_
          refine q_iload_n rfl rfl rfl ?_
          refine q_bipush rfl rfl ?_
          refine q_icge rfl rfl (fun c82 => absurd c82 (by decide)) (fun c82 => ?_)
          refine q_aload_n rfl rfl rfl ?_
          refine q_getf rfl rfl (by decide) rfl rfl ?_
          refine q_iload_n rfl rfl rfl ?_
          refine q_aload_n rfl rfl rfl ?_
          refine q_getf rfl rfl (by decide) rfl rfl ?_
          refine q_iload_n rfl rfl rfl ?_
          refine q_iald rfl rfl (by decide) (FW_54 S hW) (by decide) (q_tn (z := 0) rfl ?_)
          refine q_iast rfl rfl (by decide) rfl (by decide) ?_
          refine q_icc1 (z := 18) rfl rfl rfl rfl rfl ?_
          refine q_goto rfl ?_
          refine q_iload_n rfl rfl rfl ?_
          refine q_bipush rfl rfl ?_
          refine q_icge rfl rfl (fun c83 => absurd c83 (by decide)) (fun c83 => ?_)
          refine q_aload_n rfl rfl rfl ?_
          refine q_getf rfl rfl (by decide) rfl rfl ?_
          refine q_iload_n rfl rfl rfl ?_
          refine q_aload_n rfl rfl rfl ?_
          refine q_getf rfl rfl (by decide) rfl rfl ?_
          refine q_iload_n rfl rfl rfl ?_
          refine q_iald rfl rfl (by decide) (FW_54 S hW) (by decide) (q_tn (z := 0) rfl ?_)
          refine q_iast rfl rfl (by decide) rfl (by decide) ?_
          refine q_icc1 (z := 19) rfl rfl rfl rfl rfl ?_
          refine q_goto rfl ?_
          refine q_iload_n rfl rfl rfl ?_
          refine q_bipush rfl rfl ?_
          refine q_icge rfl rfl (fun c84 => absurd c84 (by decide)) (fun c84 => ?_)
          refine q_aload_n rfl rfl rfl ?_
          refine q_getf rfl rfl (by decide) rfl rfl ?_
          refine q_iload_n rfl rfl rfl ?_
          refine q_aload_n rfl rfl rfl ?_
          refine q_getf rfl rfl (by decide) rfl rfl ?_
          refine q_iload_n rfl rfl rfl ?_
          refine q_iald rfl rfl (by decide) (FW_54 S hW) (by decide) (q_tn (z := 0) rfl ?_)
          refine q_iast rfl rfl (by decide) rfl (by decide) ?_
          refine q_icc1 (z := 20) rfl rfl rfl rfl rfl ?_
          refine q_goto rfl ?_
          refine q_iload_n rfl rfl rfl ?_
          refine q_bipush rfl rfl ?_
          refine q_icge rfl rfl (fun c85 => ?_) (fun c85 => absurd (by decide) c85)
          refine q_ret rfl rfl ?_
          refine ⟨rfl, ?_⟩
          refine q_iload_n rfl rfl rfl ?_
          refine q_switch (q := 149) rfl rfl ?_
          refine q_aload_n rfl rfl rfl ?_
          refine q_getf rfl rfl (by decide) rfl rfl ?_
          refine q_bipush rfl rfl ?_
          refine q_iload_n rfl rfl rfl ?_
          refine q_iadd rfl rfl (q_tn (z := 13) rfl ?_)
          refine q_iald rfl rfl (by decide) (FW_54 S hW) (by decide) (q_tn (z := 0) rfl ?_)
          refine q_iret rfl rfl trivial ?_
          refine ⟨_, rfl, ?_⟩
          refine q_iceq rfl rfl (fun c86 => ?_) (fun c86 => absurd (by decide) c86)
          refine q_icc4 (z := 6) rfl rfl rfl rfl rfl ?_
          refine q_goto rfl ?_
          refine q_iload rfl rfl rfl ?_
          refine q_aload_nF rfl rfl rfl ?_
          refine q_alenX (x := 6) rfl rfl rfl ?_
          refine q_bipush rfl rfl ?_
          refine q_isub rfl rfl (q_tn (z := 0) rfl ?_)
          refine q_icgt rfl rfl (fun c87 => ?_) (fun c87 => absurd (by decide) c87)
          refine q_iconst rfl rfl ?_
          refine q_iret rfl rfl rfl ?_
          exact hK _ _
        · refine q_imul rfl rfl (q_tn (z := 8) rfl ?_)
          refine q_iadd rfl rfl (q_tn (z := 44) rfl ?_)
          refine q_lushr rfl rfl (q_tnl (z := 0) rfl ?_)
          refine q_l2i rfl rfl (q_tn (z := 0) rfl ?_)
          refine q_bipush rfl rfl ?_
          refine q_iand rfl rfl (q_tn (z := 0) rfl ?_)
          refine q_iret rfl rfl trivial ?_
          refine ⟨_, rfl, ?_⟩
          refine q_goto rfl ?_
          refine q_iret rfl rfl trivial ?_
          refine ⟨_, rfl, ?_⟩
          refine q_aload_n rfl rfl rfl ?_
          refine q_aload_nF rfl rfl rfl ?_
          refine q_iload rfl rfl rfl ?_
          refine q_iconst rfl rfl ?_
          refine q_iadd rfl rfl (q_tn (z := 1) rfl ?_)
          refine q_ialdX (x := 5) rfl rfl rfl hx1 ?_
          refine q_aload_nF rfl rfl rfl ?_
          refine q_iload rfl rfl rfl ?_
          refine q_iconst rfl rfl ?_
          refine q_iadd rfl rfl (q_tn (z := 2) rfl ?_)
          refine q_ialdX (x := 2) rfl rfl rfl hx2 ?_
          refine q_nV2 rfl rfl (Or.inl rfl) rfl rfl rfl (by decide) (FW_46 S hW) ⟨rfl, rfl⟩ rfl ?_
          change PQ _ _ _ mm_X12_see 0 [.ref 46, .int 5, .int 2] [] _ _ 0 0 _
          refine q_aload_n rfl rfl rfl ?_
          refine q_iload_n rfl rfl rfl ?_
          refine q_iconst rfl rfl ?_
          refine q_bipush rfl rfl ?_
          refine q_nV3 rfl rfl (Or.inl rfl) rfl rfl rfl (by decide) (FW_46 S hW) ⟨rfl, rfl⟩ rfl ?_
          change PQ _ _ _ mm_X12_in 0 [.ref 46, .int 5, .int 0, .int 6] [] _ _ 0 0 _
          refine q_iload_n rfl rfl rfl ?_
          refine q_iload_n rfl rfl rfl ?_
          refine q_iclt rfl rfl (fun c88 => absurd c88 (by decide)) (fun c88 => ?_)
          refine q_iload_n rfl rfl rfl ?_
          refine q_iload_n rfl rfl rfl ?_
          refine q_icgt rfl rfl (fun c89 => absurd c89 (by decide)) (fun c89 => ?_)
          refine q_iconst rfl rfl ?_
          refine q_goto rfl ?_
          refine q_iret rfl rfl rfl ?_
          refine ⟨_, rfl, ?_⟩
          refine q_ifeq rfl rfl (fun c90 => absurd c90 (by decide)) (fun c90 => ?_)
          refine q_iload_n rfl rfl rfl ?_
          refine q_iconst rfl rfl ?_
          refine q_icge rfl rfl (fun c91 => ?_) (fun c91 => absurd (by decide) c91)
          refine q_aload_n rfl rfl rfl ?_
          refine q_iload_n rfl rfl rfl ?_
          refine q_iconst rfl rfl ?_
          refine q_iload_n rfl rfl rfl ?_
          refine q_iconst rfl rfl ?_
          refine q_icne rfl rfl (fun c92 => ?_) (fun c92 => absurd (by decide) c92)
          refine q_iconst rfl rfl ?_
          refine q_goto rfl ?_
          refine q_nV3 rfl rfl (Or.inl rfl) rfl rfl rfl (by decide) (FW_46 S hW) ⟨rfl, rfl⟩ rfl ?_
          change PQ _ _ _ mm_X12_in 0 [.ref 46, .int 2, .int 0, .int 3] [] _ _ 0 0 _
          refine q_iload_n rfl rfl rfl ?_
          refine q_iload_n rfl rfl rfl ?_
          refine q_iclt rfl rfl (fun c93 => absurd c93 (by decide)) (fun c93 => ?_)
          refine q_iload_n rfl rfl rfl ?_
          refine q_iload_n rfl rfl rfl ?_
          refine q_icgt rfl rfl (fun c94 => absurd c94 (by decide)) (fun c94 => ?_)
          refine q_iconst rfl rfl ?_
          refine q_goto rfl ?_
          refine q_iret rfl rfl rfl ?_
          refine ⟨_, rfl, ?_⟩
          refine q_ifne rfl rfl (fun c95 => absurd c95 (by decide)) (fun c95 => ?_)
          refine q_aload_n rfl rfl rfl ?_
          refine q_nV0v rfl rfl (Or.inl rfl) rfl rfl rfl (by decide) (FW_46 S hW) ⟨rfl, rfl⟩ rfl ?_
          change PQ _ _ _ mm_X12_stand 0 [.ref 46, pm_un] [] _ _ 0 0 _
          refine q_aload_n rfl rfl rfl ?_
          refine q_iconst rfl rfl ?_
          refine q_putf rfl rfl (by decide) (FW_46 S hW) (by decide) rfl trivial ?_
          refine q_iconst rfl rfl ?_
          refine q_ist1n rfl rfl rfl rfl ?_
          refine q_iload_n rfl rfl rfl ?_
          refine q_bipush rfl rfl ?_
          refine q_icge rfl rfl (fun c96 => absurd c96 (by decide)) (fun c96 => ?_)
          refine q_aload_n rfl rfl rfl ?_
          refine q_getf rfl rfl (by decide) rfl rfl ?_
          refine q_iload_n rfl rfl rfl ?_
          refine q_aload_n rfl rfl rfl ?_
          refine q_getf rfl rfl (by decide) rfl rfl ?_
          refine q_iload_n rfl rfl rfl ?_
          refine q_iald rfl rfl (by decide) (FW_54 S hW) (by decide) (q_tn (z := 10) rfl ?_)
          refine q_iast rfl rfl (by decide) (FW_52 S hW) (by decide) ?_
          refine q_icc1 (z := 1) rfl rfl rfl rfl rfl ?_
          refine q_goto rfl ?_
          refine q_iload_n rfl rfl rfl ?_
          refine q_bipush rfl rfl ?_
          refine q_icge rfl rfl (fun c97 => absurd c97 (by decide)) (fun c97 => ?_)
          refine q_aload_n rfl rfl rfl ?_
          refine q_getf rfl rfl (by decide) rfl rfl ?_
          refine q_iload_n rfl rfl rfl ?_
          refine q_aload_n rfl rfl rfl ?_
          refine q_getf rfl rfl (by decide) rfl rfl ?_
          refine q_iload_n rfl rfl rfl ?_
          refine q_iald rfl rfl (by decide) (FW_54 S hW) (by decide) (q_tn (z := 0) rfl ?_)
          refine q_iast rfl rfl (by decide) rfl (by decide) ?_
          refine q_icc1 (z := 2) rfl rfl rfl rfl rfl ?_
          refine q_goto rfl ?_
          refine q_iload_n rfl rfl rfl ?_
          refine q_bipush rfl rfl ?_
          refine q_icge rfl rfl (fun c98 => absurd c98 (by decide)) (fun c98 => ?_)
          refine q_aload_n rfl rfl rfl ?_
          refine q_getf rfl rfl (by decide) rfl rfl ?_
          refine q_iload_n rfl rfl rfl ?_
          refine q_aload_n rfl rfl rfl ?_
          refine q_getf rfl rfl (by decide) rfl rfl ?_
          refine q_iload_n rfl rfl rfl ?_
          refine q_iald rfl rfl (by decide) (FW_54 S hW) (by decide) (q_tn (z := 0) rfl ?_)
          refine q_iast rfl rfl (by decide) rfl (by decide) ?_
          refine q_icc1 (z := 3) rfl rfl rfl rfl rfl ?_
          refine q_goto rfl ?_
          refine q_iload_n rfl rfl rfl ?_
          refine q_bipush rfl rfl ?_
          refine q_icge rfl rfl (fun c99 => absurd c99 (by decide)) (fun c99 => ?_)
          refine q_aload_n rfl rfl rfl ?_
          refine q_getf rfl rfl (by decide) rfl rfl ?_
          refine q_iload_n rfl rfl rfl ?_
          refine q_aload_n rfl rfl rfl ?_
          refine q_getf rfl rfl (by decide) rfl rfl ?_
          refine q_iload_n rfl rfl rfl ?_
          refine q_iald rfl rfl (by decide) (FW_54 S hW) (by decide) (q_tn (z := 0) rfl ?_)
          refine q_iast rfl rfl (by decide) rfl (by decide) ?_
          refine q_icc1 (z := 4) rfl rfl rfl rfl rfl ?_
          refine q_goto rfl ?_
          refine q_iload_n rfl rfl rfl ?_
          refine q_bipush rfl rfl ?_
          refine q_icge rfl rfl (fun c100 => absurd c100 (by decide)) (fun c100 => ?_)
          refine q_aload_n rfl rfl rfl ?_
          refine q_getf rfl rfl (by decide) rfl rfl ?_
          refine q_iload_n rfl rfl rfl ?_
          refine q_aload_n rfl rfl rfl ?_
          refine q_getf rfl rfl (by decide) rfl rfl ?_
          refine q_iload_n rfl rfl rfl ?_
          refine q_iald rfl rfl (by decide) (FW_54 S hW) (by decide) (q_tn (z := 0) rfl ?_)
          refine q_iast rfl rfl (by decide) rfl (by decide) ?_
          refine q_icc1 (z := 5) rfl rfl rfl rfl rfl ?_
          refine q_goto rfl ?_
          refine q_iload_n rfl rfl rfl ?_
          refine q_bipush rfl rfl ?_
          refine q_icge rfl rfl (fun c101 => absurd c101 (by decide)) (fun c101 => ?_)
          refine q_aload_n rfl rfl rfl ?_
          refine q_getf rfl rfl (by decide) rfl rfl ?_
          refine q_iload_n rfl rfl rfl ?_
          refine q_aload_n rfl rfl rfl ?_
          refine q_getf rfl rfl (by decide) rfl rfl ?_
          refine q_iload_n rfl rfl rfl ?_
          refine q_iald rfl rfl (by decide) (FW_54 S hW) (by decide) (q_tn (z := 0) rfl ?_)
          refine q_iast rfl rfl (by decide) rfl (by decide) ?_
          refine q_icc1 (z := 6) rfl rfl rfl rfl rfl ?_
          refine q_goto rfl ?_
          refine q_iload_n rfl rfl rfl ?_
          refine q_bipush rfl rfl ?_
          refine q_icge rfl rfl (fun c102 => absurd c102 (by decide)) (fun c102 => ?_)
          refine q_aload_n rfl rfl rfl ?_
          refine q_getf rfl rfl (by decide) rfl rfl ?_
          refine q_iload_n rfl rfl rfl ?_
          refine q_aload_n rfl rfl rfl ?_
          refine q_getf rfl rfl (by decide) rfl rfl ?_
          refine q_iload_n rfl rfl rfl ?_
          refine q_iald rfl rfl (by decide) (FW_54 S hW) (by decide) (q_tn (z := 0) rfl ?_)
          refine q_iast rfl rfl (by decide) rfl (by decide) ?_
          refine q_icc1 (z := 7) rfl rfl rfl rfl rfl ?_
          refine q_goto rfl ?_
          refine q_iload_n rfl rfl rfl ?_
          refine q_bipush rfl rfl ?_
          refine q_icge rfl rfl (fun c103 => absurd c103 (by decide)) (fun c103 => ?_)
          refine q_aload_n rfl rfl rfl ?_
          refine q_getf rfl rfl (by decide) rfl rfl ?_
          refine q_iload_n rfl rfl rfl ?_
          refine q_aload_n rfl rfl rfl ?_
          refine q_getf rfl rfl (by decide) rfl rfl ?_
          refine q_iload_n rfl rfl rfl ?_
          refine q_iald rfl rfl (by decide) (FW_54 S hW) (by decide) (q_tn (z := 0) rfl ?_)
          refine q_iast rfl rfl (by decide) rfl (by decide) ?_
          refine q_icc1 (z := 8) rfl rfl rfl rfl rfl ?_
          refine q_goto rfl ?_
          refine q_iload_n rfl rfl rfl ?_
          refine q_bipush rfl rfl ?_
          refine q_icge rfl rfl (fun c104 => absurd c104 (by decide)) (fun c104 => ?_)
          refine q_aload_n rfl rfl rfl ?_
          refine q_getf rfl rfl (by decide) rfl rfl ?_
          refine q_iload_n rfl rfl rfl ?_
          refine q_aload_n rfl rfl rfl ?_
          refine q_getf rfl rfl (by decide) rfl rfl ?_
          refine q_iload_n rfl rfl rfl ?_
          refine q_iald rfl rfl (by decide) (FW_54 S hW) (by decide) (q_tn (z := 0) rfl ?_)
          refine q_iast rfl rfl (by decide) rfl (by decide) ?_
          refine q_icc1 (z := 9) rfl rfl rfl rfl rfl ?_
          refine q_goto rfl ?_
          refine q_iload_n rfl rfl rfl ?_
          refine q_bipush rfl rfl ?_
          refine q_icge rfl rfl (fun c105 => absurd c105 (by decide)) (fun c105 => ?_)
          refine q_aload_n rfl rfl rfl ?_
          refine q_getf rfl rfl (by decide) rfl rfl ?_
          refine q_iload_n rfl rfl rfl ?_
          refine q_aload_n rfl rfl rfl ?_
          refine q_getf rfl rfl (by decide) rfl rfl ?_
          refine q_iload_n rfl rfl rfl ?_
          refine q_iald rfl rfl (by decide) (FW_54 S hW) (by decide) (q_tn (z := 0) rfl ?_)
          refine q_iast rfl rfl (by decide) rfl (by decide) ?_
          refine q_icc1 (z := 10) rfl rfl rfl rfl rfl ?_
          refine q_goto rfl ?_
          refine q_iload_n rfl rfl rfl ?_
          refine q_bipush rfl rfl ?_
          refine q_icge rfl rfl (fun c106 => absurd c106 (by decide)) (fun c106 => ?_)
          refine q_aload_n rfl rfl rfl ?_
          refine q_getf rfl rfl (by decide) rfl rfl ?_
          refine q_iload_n rfl rfl rfl ?_
          refine q_aload_n rfl rfl rfl ?_
          refine q_getf rfl rfl (by decide) rfl rfl ?_
          refine q_iload_n rfl rfl rfl ?_
          refine q_iald rfl rfl (by decide) (FW_54 S hW) (by decide) (q_tn (z := 0) rfl ?_)
          refine q_iast rfl rfl (by decide) rfl (by decide) ?_
          refine q_icc1 (z := 11) rfl rfl rfl rfl rfl ?_
          refine q_goto rfl ?_
          refine q_iload_n rfl rfl rfl ?_
          refine q_bipush rfl rfl ?_
          refine q_icge rfl rfl (fun c107 => absurd c107 (by decide)) (fun c107 => ?_)
          refine q_aload_n rfl rfl rfl ?_
          refine q_getf rfl rfl (by decide) rfl rfl ?_
          refine q_iload_n rfl rfl rfl ?_
          refine q_aload_n rfl rfl rfl ?_
          refine q_getf rfl rfl (by decide) rfl rfl ?_
          refine q_iload_n rfl rfl rfl ?_
          refine q_iald rfl rfl (by decide) (FW_54 S hW) (by decide) (q_tn (z := 0) rfl ?_)
          refine q_iast rfl rfl (by decide) rfl (by decide) ?_
          refine q_icc1 (z := 12) rfl rfl rfl rfl rfl ?_
          refine q_goto rfl ?_
          refine q_iload_n rfl rfl rfl ?_
          refine q_bipush rfl rfl ?_
          refine q_icge rfl rfl (fun c108 => absurd c108 (by decide)) (fun c108 => ?_)
          refine q_aload_n rfl rfl rfl ?_
          refine q_getf rfl rfl (by decide) rfl rfl ?_
          refine q_iload_n rfl rfl rfl ?_
          refine q_aload_n rfl rfl rfl ?_
          refine q_getf rfl rfl (by decide) rfl rfl ?_
          refine q_iload_n rfl rfl rfl ?_
          refine q_iald rfl rfl (by decide) (FW_54 S hW) (by decide) (q_tn (z := 0) rfl ?_)
          refine q_iast rfl rfl (by decide) rfl (by decide) ?_
          refine q_icc1 (z := 13) rfl rfl rfl rfl rfl ?_
          refine q_goto rfl ?_
          refine q_iload_n rfl rfl rfl ?_
          refine q_bipush rfl rfl ?_
          refine q_icge rfl rfl (fun c109 => absurd c109 (by decide)) (fun c109 => ?_)
          refine q_aload_n rfl rfl rfl ?_
          refine q_getf rfl rfl (by decide) rfl rfl ?_
          refine q_iload_n rfl rfl rfl ?_
          refine q_aload_n rfl rfl rfl ?_
          refine q_getf rfl rfl (by decide) rfl rfl ?_
          refine q_iload_n rfl rfl rfl ?_
          refine q_iald rfl rfl (by decide) (FW_54 S hW) (by decide) (q_tn (z := 0) rfl ?_)
          refine q_iast rfl rfl (by decide) rfl (by decide) ?_
          refine q_icc1 (z := 14) rfl rfl rfl rfl rfl ?_
          refine q_goto rfl ?_
          refine q_iload_n rfl rfl rfl ?_
          refine q_bipush rfl rfl ?_
          refine q_icge rfl rfl (fun c110 => absurd c110 (by decide)) (fun c110 => ?_)
          refine q_aload_n rfl rfl rfl ?_
          refine q_getf rfl rfl (by decide) rfl rfl ?_
          refine q_iload_n rfl rfl rfl ?_
          refine q_aload_n rfl rfl rfl ?_
          refine q_getf rfl rfl (by decide) rfl rfl ?_
          refine q_iload_n rfl rfl rfl ?_
          refine q_iald rfl rfl (by decide) (FW_54 S hW) (by decide) (q_tn (z := 0) rfl ?_)
          refine q_iast rfl rfl (by decide) rfl (by decide) ?_
          refine q_icc1 (z := 15) rfl rfl rfl rfl rfl ?_
          refine q_goto rfl ?_
          refine q_iload_n rfl rfl rfl ?_
          refine q_bipush rfl rfl ?_
          refine q_icge rfl rfl (fun c111 => absurd c111 (by decide)) (fun c111 => ?_)
          refine q_aload_n rfl rfl rfl ?_
          refine q_getf rfl rfl (by decide) rfl rfl ?_
          refine q_iload_n rfl rfl rfl ?_
          refine q_aload_n rfl rfl rfl ?_
          refine q_getf rfl rfl (by decide) rfl rfl ?_
          refine q_iload_n rfl rfl rfl ?_
          refine q_iald rfl rfl (by decide) (FW_54 S hW) (by decide) (q_tn (z := 0) rfl ?_)
          refine q_iast rfl rfl (by decide) rfl (by decide) ?_
          refine q_icc1 (z := 16) rfl rfl rfl rfl rfl ?_
          refine q_goto rfl ?_
          refine q_iload_n rfl rfl rfl ?_
          refine q_bipush rfl rfl ?_
          refine q_icge rfl rfl (fun c112 => absurd c112 (by decide)) (fun c112 => ?_)
          refine q_aload_n rfl rfl rfl ?_
          refine q_getf rfl rfl (by decide) rfl rfl ?_
          refine q_iload_n rfl rfl rfl ?_
          refine q_aload_n rfl rfl rfl ?_
          refine q_getf rfl rfl (by decide) rfl rfl ?_
          refine q_iload_n rfl rfl rfl ?_
          refine q_iald rfl rfl (by decide) (FW_54 S hW) (by decide) (q_tn (z := 0) rfl ?_)
          refine q_iast rfl rfl (by decide) rfl (by decide) ?_
          refine q_icc1 (z := 17) rfl rfl rfl rfl rfl ?_
          refine q_goto rfl ?_
          refine q_iload_n rfl rfl rfl ?_
          refine q_bipush rfl rfl ?_
          refine q_icge rfl rfl (fun c113 => absurd c113 (by decide)) (fun c113 => ?_)
          refine q_aload_n rfl rfl rfl ?_
          refine q_getf rfl rfl (by decide) rfl rfl ?_
          refine q_iload_n rfl rfl rfl ?_
          refine q_aload_n rfl rfl rfl ?_
          refine q_getf rfl rfl (by decide) rfl rfl ?_
          refine q_iload_n rfl rfl rfl ?_
          refine q_iald rfl rfl (by decide) (FW_54 S hW) (by decide) (q_tn (z := 0) rfl ?_)
          refine q_iast rfl rfl (by decide) rfl (by decide) ?_
          refine q_icc1 (z := 18) rfl rfl rfl rfl rfl ?_
          refine q_goto rfl ?_
          refine q_iload_n rfl rfl rfl ?_
          refine q_bipush rfl rfl ?_
          refine q_icge rfl rfl (fun c114 => absurd c114 (by decide)) (fun c114 => ?_)
          refine q_aload_n rfl rfl rfl ?_
          refine q_getf rfl rfl (by decide) rfl rfl ?_
          refine q_iload_n rfl rfl rfl ?_
          refine q_aload_n rfl rfl rfl ?_
          refine q_getf rfl rfl (by decide) rfl rfl ?_
          refine q_iload_n rfl rfl rfl ?_
          refine q_iald rfl rfl (by decide) (FW_54 S hW) (by decide) (q_tn (z := 0) rfl ?_)
          refine q_iast rfl rfl (by decide) rfl (by decide) ?_
          refine q_icc1 (z := 19) rfl rfl rfl rfl rfl ?_
          refine q_goto rfl ?_
          refine q_iload_n rfl rfl rfl ?_
          refine q_bipush rfl rfl ?_
          refine q_icge rfl rfl (fun c115 => absurd c115 (by decide)) (fun c115 => ?_)
          refine q_aload_n rfl rfl rfl ?_
          refine q_getf rfl rfl (by decide) rfl rfl ?_
          refine q_iload_n rfl rfl rfl ?_
          refine q_aload_n rfl rfl rfl ?_
          refine q_getf rfl rfl (by decide) rfl rfl ?_
          refine q_iload_n rfl rfl rfl ?_
          refine q_iald rfl rfl (by decide) (FW_54 S hW) (by decide) (q_tn (z := 0) rfl ?_)
          refine q_iast rfl rfl (by decide) rfl (by decide) ?_
          refine q_icc1 (z := 20) rfl rfl rfl rfl rfl ?_
          refine q_goto rfl ?_
          refine q_iload_n rfl rfl rfl ?_
          refine q_bipush rfl rfl ?_
          refine q_icge rfl rfl (fun c116 => ?_) (fun c116 => absurd (by decide) c116)
          refine q_ret rfl rfl ?_
          refine ⟨rfl, ?_⟩
          refine q_iload_n rfl rfl rfl ?_
          refine q_switch (q := 149) rfl rfl ?_
          refine q_aload_n rfl rfl rfl ?_
          refine q_getf rfl rfl (by decide) rfl rfl ?_
          refine q_bipush rfl rfl ?_
          refine q_iload_n rfl rfl rfl ?_
          refine q_iadd rfl rfl (q_tn (z := 14) rfl ?_)
          refine q_iald rfl rfl (by decide) (FW_54 S hW) (by decide) (q_tn (z := 0) rfl ?_)
          refine q_iret rfl rfl trivial ?_
          refine ⟨_, rfl, ?_⟩
          refine q_iceq rfl rfl (fun c117 => ?_) (fun c117 => absurd (by decide) c117)
          refine q_icc4 (z := 6) rfl rfl rfl rfl rfl ?_
          refine q_goto rfl ?_
          refine q_iload rfl rfl rfl ?_
          refine q_aload_nF rfl rfl rfl ?_
          refine q_alenX (x := 6) rfl rfl rfl ?_
          refine q_bipush rfl rfl ?_
          refine q_isub rfl rfl (q_tn (z := 0) rfl ?_)
          refine q_icgt rfl rfl (fun c118 => ?_) (fun c118 => absurd (by decide) c118)
          refine q_iconst rfl rfl ?_
          refine q_iret rfl rfl rfl ?_
          exact hK _ _
        · refine q_imul rfl rfl (q_tn (z := 12) rfl ?_)
          refine q_iadd rfl rfl (q_tn (z := 48) rfl ?_)
          refine q_lushr rfl rfl (q_tnl (z := 0) rfl ?_)
          refine q_l2i rfl rfl (q_tn (z := 0) rfl ?_)
          refine q_bipush rfl rfl ?_
          refine q_iand rfl rfl (q_tn (z := 0) rfl ?_)
          refine q_iret rfl rfl trivial ?_
          refine ⟨_, rfl, ?_⟩
          refine q_goto rfl ?_
          refine q_iret rfl rfl trivial ?_
          refine ⟨_, rfl, ?_⟩
          refine q_aload_n rfl rfl rfl ?_
          refine q_aload_nF rfl rfl rfl ?_
          refine q_iload rfl rfl rfl ?_
          refine q_iconst rfl rfl ?_
          refine q_iadd rfl rfl (q_tn (z := 1) rfl ?_)
          refine q_ialdX (x := 5) rfl rfl rfl hx1 ?_
          refine q_aload_nF rfl rfl rfl ?_
          refine q_iload rfl rfl rfl ?_
          refine q_iconst rfl rfl ?_
          refine q_iadd rfl rfl (q_tn (z := 2) rfl ?_)
          refine q_ialdX (x := 3) rfl rfl rfl hx2 ?_
          refine q_nV2 rfl rfl (Or.inl rfl) rfl rfl rfl (by decide) (FW_46 S hW) ⟨rfl, rfl⟩ rfl ?_
          change PQ _ _ _ mm_X12_see 0 [.ref 46, .int 5, .int 3] [] _ _ 0 0 _
          refine q_aload_n rfl rfl rfl ?_
          refine q_iload_n rfl rfl rfl ?_
          refine q_iconst rfl rfl ?_
          refine q_bipush rfl rfl ?_
          refine q_nV3 rfl rfl (Or.inl rfl) rfl rfl rfl (by decide) (FW_46 S hW) ⟨rfl, rfl⟩ rfl ?_
          change PQ _ _ _ mm_X12_in 0 [.ref 46, .int 5, .int 0, .int 6] [] _ _ 0 0 _
          refine q_iload_n rfl rfl rfl ?_
          refine q_iload_n rfl rfl rfl ?_
          refine q_iclt rfl rfl (fun c119 => absurd c119 (by decide)) (fun c119 => ?_)
          refine q_iload_n rfl rfl rfl ?_
          refine q_iload_n rfl rfl rfl ?_
          refine q_icgt rfl rfl (fun c120 => absurd c120 (by decide)) (fun c120 => ?_)
          refine q_iconst rfl rfl ?_
          refine q_goto rfl ?_
          refine q_iret rfl rfl rfl ?_
          refine ⟨_, rfl, ?_⟩
          refine q_ifeq rfl rfl (fun c121 => absurd c121 (by decide)) (fun c121 => ?_)
          refine q_iload_n rfl rfl rfl ?_
          refine q_iconst rfl rfl ?_
          refine q_icge rfl rfl (fun c122 => ?_) (fun c122 => absurd (by decide) c122)
          refine q_aload_n rfl rfl rfl ?_
          refine q_iload_n rfl rfl rfl ?_
          refine q_iconst rfl rfl ?_
          refine q_iload_n rfl rfl rfl ?_
          refine q_iconst rfl rfl ?_
          refine q_icne rfl rfl (fun c123 => ?_) (fun c123 => absurd (by decide) c123)
          refine q_iconst rfl rfl ?_
          refine q_goto rfl ?_
          refine q_nV3 rfl rfl (Or.inl rfl) rfl rfl rfl (by decide) (FW_46 S hW) ⟨rfl, rfl⟩ rfl ?_
          change PQ _ _ _ mm_X12_in 0 [.ref 46, .int 3, .int 0, .int 3] [] _ _ 0 0 _
          refine q_iload_n rfl rfl rfl ?_
          refine q_iload_n rfl rfl rfl ?_
          refine q_iclt rfl rfl (fun c124 => absurd c124 (by decide)) (fun c124 => ?_)
          refine q_iload_n rfl rfl rfl ?_
          refine q_iload_n rfl rfl rfl ?_
          refine q_icgt rfl rfl (fun c125 => absurd c125 (by decide)) (fun c125 => ?_)
          refine q_iconst rfl rfl ?_
          refine q_goto rfl ?_
          refine q_iret rfl rfl rfl ?_
          refine ⟨_, rfl, ?_⟩
          refine q_ifne rfl rfl (fun c126 => absurd c126 (by decide)) (fun c126 => ?_)
          refine q_aload_n rfl rfl rfl ?_
          refine q_nV0v rfl rfl (Or.inl rfl) rfl rfl rfl (by decide) (FW_46 S hW) ⟨rfl, rfl⟩ rfl ?_
          change PQ _ _ _ mm_X12_stand 0 [.ref 46, pm_un] [] _ _ 0 0 _
          refine q_aload_n rfl rfl rfl ?_
          refine q_iconst rfl rfl ?_
          refine q_putf rfl rfl (by decide) (FW_46 S hW) (by decide) rfl trivial ?_
          refine q_iconst rfl rfl ?_
          refine q_ist1n rfl rfl rfl rfl ?_
          refine q_iload_n rfl rfl rfl ?_
          refine q_bipush rfl rfl ?_
          refine q_icge rfl rfl (fun c127 => absurd c127 (by decide)) (fun c127 => ?_)
          refine q_aload_n rfl rfl rfl ?_
          refine q_getf rfl rfl (by decide) rfl rfl ?_
          refine q_iload_n rfl rfl rfl ?_
          refine q_aload_n rfl rfl rfl ?_
          refine q_getf rfl rfl (by decide) rfl rfl ?_
          refine q_iload_n rfl rfl rfl ?_
          refine q_iald rfl rfl (by decide) (FW_54 S hW) (by decide) (q_tn (z := 10) rfl ?_)
          refine q_iast rfl rfl (by decide) (FW_52 S hW) (by decide) ?_
          refine q_icc1 (z := 1) rfl rfl rfl rfl rfl ?_
          refine q_goto rfl ?_
          refine q_iload_n rfl rfl rfl ?_
          refine q_bipush rfl rfl ?_
          refine q_icge rfl rfl (fun c128 => absurd c128 (by decide)) (fun c128 => ?_)
          refine q_aload_n rfl rfl rfl ?_
          refine q_getf rfl rfl (by decide) rfl rfl ?_
          refine q_iload_n rfl rfl rfl ?_
          refine q_aload_n rfl rfl rfl ?_
          refine q_getf rfl rfl (by decide) rfl rfl ?_
          refine q_iload_n rfl rfl rfl ?_
          refine q_iald rfl rfl (by decide) (FW_54 S hW) (by decide) (q_tn (z := 0) rfl ?_)
          refine q_iast rfl rfl (by decide) rfl (by decide) ?_
          refine q_icc1 (z := 2) rfl rfl rfl rfl rfl ?_
          refine q_goto rfl ?_
          refine q_iload_n rfl rfl rfl ?_
          refine q_bipush rfl rfl ?_
          refine q_icge rfl rfl (fun c129 => absurd c129 (by decide)) (fun c129 => ?_)
          refine q_aload_n rfl rfl rfl ?_
          refine q_getf rfl rfl (by decide) rfl rfl ?_
          refine q_iload_n rfl rfl rfl ?_
          refine q_aload_n rfl rfl rfl ?_
          refine q_getf rfl rfl (by decide) rfl rfl ?_
          refine q_iload_n rfl rfl rfl ?_
          refine q_iald rfl rfl (by decide) (FW_54 S hW) (by decide) (q_tn (z := 0) rfl ?_)
          refine q_iast rfl rfl (by decide) rfl (by decide) ?_
          refine q_icc1 (z := 3) rfl rfl rfl rfl rfl ?_
          refine q_goto rfl ?_
          refine q_iload_n rfl rfl rfl ?_
          refine q_bipush rfl rfl ?_
          refine q_icge rfl rfl (fun c130 => absurd c130 (by decide)) (fun c130 => ?_)
          refine q_aload_n rfl rfl rfl ?_
          refine q_getf rfl rfl (by decide) rfl rfl ?_
          refine q_iload_n rfl rfl rfl ?_
          refine q_aload_n rfl rfl rfl ?_
          refine q_getf rfl rfl (by decide) rfl rfl ?_
          refine q_iload_n rfl rfl rfl ?_
          refine q_iald rfl rfl (by decide) (FW_54 S hW) (by decide) (q_tn (z := 0) rfl ?_)
          refine q_iast rfl rfl (by decide) rfl (by decide) ?_
          refine q_icc1 (z := 4) rfl rfl rfl rfl rfl ?_
          refine q_goto rfl ?_
          refine q_iload_n rfl rfl rfl ?_
          refine q_bipush rfl rfl ?_
          refine q_icge rfl rfl (fun c131 => absurd c131 (by decide)) (fun c131 => ?_)
          refine q_aload_n rfl rfl rfl ?_
          refine q_getf rfl rfl (by decide) rfl rfl ?_
          refine q_iload_n rfl rfl rfl ?_
          refine q_aload_n rfl rfl rfl ?_
          refine q_getf rfl rfl (by decide) rfl rfl ?_
          refine q_iload_n rfl rfl rfl ?_
          refine q_iald rfl rfl (by decide) (FW_54 S hW) (by decide) (q_tn (z := 0) rfl ?_)
          refine q_iast rfl rfl (by decide) rfl (by decide) ?_
          refine q_icc1 (z := 5) rfl rfl rfl rfl rfl ?_
          refine q_goto rfl ?_
          refine q_iload_n rfl rfl rfl ?_
          refine q_bipush rfl rfl ?_
          refine q_icge rfl rfl (fun c132 => absurd c132 (by decide)) (fun c132 => ?_)
          refine q_aload_n rfl rfl rfl ?_
          refine q_getf rfl rfl (by decide) rfl rfl ?_
          refine q_iload_n rfl rfl rfl ?_
          refine q_aload_n rfl rfl rfl ?_
          refine q_getf rfl rfl (by decide) rfl rfl ?_
          refine q_iload_n rfl rfl rfl ?_
          refine q_iald rfl rfl (by decide) (FW_54 S hW) (by decide) (q_tn (z := 0) rfl ?_)
          refine q_iast rfl rfl (by decide) rfl (by decide) ?_
          refine q_icc1 (z := 6) rfl rfl rfl rfl rfl ?_
          refine q_goto rfl ?_
          refine q_iload_n rfl rfl rfl ?_
          refine q_bipush rfl rfl ?_
          refine q_icge rfl rfl (fun c133 => absurd c133 (by decide)) (fun c133 => ?_)
          refine q_aload_n rfl rfl rfl ?_
          refine q_getf rfl rfl (by decide) rfl rfl ?_
          refine q_iload_n rfl rfl rfl ?_
          refine q_aload_n rfl rfl rfl ?_
          refine q_getf rfl rfl (by decide) rfl rfl ?_
          refine q_iload_n rfl rfl rfl ?_
          refine q_iald rfl rfl (by decide) (FW_54 S hW) (by decide) (q_tn (z := 0) rfl ?_)
          refine q_iast rfl rfl (by decide) rfl (by decide) ?_
          refine q_icc1 (z := 7) rfl rfl rfl rfl rfl ?_
          refine q_goto rfl ?_
          refine q_iload_n rfl rfl rfl ?_
          refine q_bipush rfl rfl ?_
          refine q_icge rfl rfl (fun c134 => absurd c134 (by decide)) (fun c134 => ?_)
          refine q_aload_n rfl rfl rfl ?_
          refine q_getf rfl rfl (by decide) rfl rfl ?_
          refine q_iload_n rfl rfl rfl ?_
          refine q_aload_n rfl rfl rfl ?_
          refine q_getf rfl rfl (by decide) rfl rfl ?_
          refine q_iload_n rfl rfl rfl ?_
          refine q_iald rfl rfl (by decide) (FW_54 S hW) (by decide) (q_tn (z := 0) rfl ?_)
          refine q_iast rfl rfl (by decide) rfl (by decide) ?_
          refine q_icc1 (z := 8) rfl rfl rfl rfl rfl ?_
          refine q_goto rfl ?_
          refine q_iload_n rfl rfl rfl ?_
          refine q_bipush rfl rfl ?_
          refine q_icge rfl rfl (fun c135 => absurd c135 (by decide)) (fun c135 => ?_)
          refine q_aload_n rfl rfl rfl ?_
          refine q_getf rfl rfl (by decide) rfl rfl ?_
          refine q_iload_n rfl rfl rfl ?_
          refine q_aload_n rfl rfl rfl ?_
          refine q_getf rfl rfl (by decide) rfl rfl ?_
          refine q_iload_n rfl rfl rfl ?_
          refine q_iald rfl rfl (by decide) (FW_54 S hW) (by decide) (q_tn (z := 0) rfl ?_)
          refine q_iast rfl rfl (by decide) rfl (by decide) ?_
          refine q_icc1 (z := 9) rfl rfl rfl rfl rfl ?_
          refine q_goto rfl ?_
          refine q_iload_n rfl rfl rfl ?_
          refine q_bipush rfl rfl ?_
          refine q_icge rfl rfl (fun c136 => absurd c136 (by decide)) (fun c136 => ?_)
          refine q_aload_n rfl rfl rfl ?_
          refine q_getf rfl rfl (by decide) rfl rfl ?_
          refine q_iload_n rfl rfl rfl ?_
          refine q_aload_n rfl rfl rfl ?_
          refine q_getf rfl rfl (by decide) rfl rfl ?_
          refine q_iload_n rfl rfl rfl ?_
          refine q_iald rfl rfl (by decide) (FW_54 S hW) (by decide) (q_tn (z := 0) rfl ?_)
          refine q_iast rfl rfl (by decide) rfl (by decide) ?_
          refine q_icc1 (z := 10) rfl rfl rfl rfl rfl ?_
          refine q_goto rfl ?_
          refine q_iload_n rfl rfl rfl ?_
          refine q_bipush rfl rfl ?_
          refine q_icge rfl rfl (fun c137 => absurd c137 (by decide)) (fun c137 => ?_)
          refine q_aload_n rfl rfl rfl ?_
          refine q_getf rfl rfl (by decide) rfl rfl ?_
          refine q_iload_n rfl rfl rfl ?_
          refine q_aload_n rfl rfl rfl ?_
          refine q_getf rfl rfl (by decide) rfl rfl ?_
          refine q_iload_n rfl rfl rfl ?_
          refine q_iald rfl rfl (by decide) (FW_54 S hW) (by decide) (q_tn (z := 0) rfl ?_)
          refine q_iast rfl rfl (by decide) rfl (by decide) ?_
          refine q_icc1 (z := 11) rfl rfl rfl rfl rfl ?_
          refine q_goto rfl ?_
          refine q_iload_n rfl rfl rfl ?_
          refine q_bipush rfl rfl ?_
          refine q_icge rfl rfl (fun c138 => absurd c138 (by decide)) (fun c138 => ?_)
          refine q_aload_n rfl rfl rfl ?_
          refine q_getf rfl rfl (by decide) rfl rfl ?_
          refine q_iload_n rfl rfl rfl ?_
          refine q_aload_n rfl rfl rfl ?_
          refine q_getf rfl rfl (by decide) rfl rfl ?_
          refine q_iload_n rfl rfl rfl ?_
          refine q_iald rfl rfl (by decide) (FW_54 S hW) (by decide) (q_tn (z := 0) rfl ?_)
          refine q_iast rfl rfl (by decide) rfl (by decide) ?_
          refine q_icc1 (z := 12) rfl rfl rfl rfl rfl ?_
          refine q_goto rfl ?_
          refine q_iload_n rfl rfl rfl ?_
          refine q_bipush rfl rfl ?_
          refine q_icge rfl rfl (fun c139 => absurd c139 (by decide)) (fun c139 => ?_)
          refine q_aload_n rfl rfl rfl ?_
          refine q_getf rfl rfl (by decide) rfl rfl ?_
          refine q_iload_n rfl rfl rfl ?_
          refine q_aload_n rfl rfl rfl ?_
          refine q_getf rfl rfl (by decide) rfl rfl ?_
          refine q_iload_n rfl rfl rfl ?_
          refine q_iald rfl rfl (by decide) (FW_54 S hW) (by decide) (q_tn (z := 0) rfl ?_)
          refine q_iast rfl rfl (by decide) rfl (by decide) ?_
          refine q_icc1 (z := 13) rfl rfl rfl rfl rfl ?_
          refine q_goto rfl ?_
          refine q_iload_n rfl rfl rfl ?_
          refine q_bipush rfl rfl ?_
          refine q_icge rfl rfl (fun c140 => absurd c140 (by decide)) (fun c140 => ?_)
          refine q_aload_n rfl rfl rfl ?_
          refine q_getf rfl rfl (by decide) rfl rfl ?_
          refine q_iload_n rfl rfl rfl ?_
          refine q_aload_n rfl rfl rfl ?_
          refine q_getf rfl rfl (by decide) rfl rfl ?_
          refine q_iload_n rfl rfl rfl ?_
          refine q_iald rfl rfl (by decide) (FW_54 S hW) (by decide) (q_tn (z := 0) rfl ?_)
          refine q_iast rfl rfl (by decide) rfl (by decide) ?_
          refine q_icc1 (z := 14) rfl rfl rfl rfl rfl ?_
          refine q_goto rfl ?_
          refine q_iload_n rfl rfl rfl ?_
          refine q_bipush rfl rfl ?_
          refine q_icge rfl rfl (fun c141 => absurd c141 (by decide)) (fun c141 => ?_)
          refine q_aload_n rfl rfl rfl ?_
          refine q_getf rfl rfl (by decide) rfl rfl ?_
          refine q_iload_n rfl rfl rfl ?_
          refine q_aload_n rfl rfl rfl ?_
          refine q_getf rfl rfl (by decide) rfl rfl ?_
          refine q_iload_n rfl rfl rfl ?_
          refine q_iald rfl rfl (by decide) (FW_54 S hW) (by decide) (q_tn (z := 0) rfl ?_)
          refine q_iast rfl rfl (by decide) rfl (by decide) ?_
          refine q_icc1 (z := 15) rfl rfl rfl rfl rfl ?_
          refine q_goto rfl ?_
          refine q_iload_n rfl rfl rfl ?_
          refine q_bipush rfl rfl ?_
          refine q_icge rfl rfl (fun c142 => absurd c142 (by decide)) (fun c142 => ?_)
          refine q_aload_n rfl rfl rfl ?_
          refine q_getf rfl rfl (by decide) rfl rfl ?_
          refine q_iload_n rfl rfl rfl ?_
          refine q_aload_n rfl rfl rfl ?_
          refine q_getf rfl rfl (by decide) rfl rfl ?_
          refine q_iload_n rfl rfl rfl ?_
          refine q_iald rfl rfl (by decide) (FW_54 S hW) (by decide) (q_tn (z := 0) rfl ?_)
          refine q_iast rfl rfl (by decide) rfl (by decide) ?_
          refine q_icc1 (z := 16) rfl rfl rfl rfl rfl ?_
          refine q_goto rfl ?_
          refine q_iload_n rfl rfl rfl ?_
          refine q_bipush rfl rfl ?_
          refine q_icge rfl rfl (fun c143 => absurd c143 (by decide)) (fun c143 => ?_)
          refine q_aload_n rfl rfl rfl ?_
          refine q_getf rfl rfl (by decide) rfl rfl ?_
          refine q_iload_n rfl rfl rfl ?_
          refine q_aload_n rfl rfl rfl ?_
          refine q_getf rfl rfl (by decide) rfl rfl ?_
          refine q_iload_n rfl rfl rfl ?_
          refine q_iald rfl rfl (by decide) (FW_54 S hW) (by decide) (q_tn (z := 0) rfl ?_)
          refine q_iast rfl rfl (by decide) rfl (by decide) ?_
          refine q_icc1 (z := 17) rfl rfl rfl rfl rfl ?_
          refine q_goto rfl ?_
          refine q_iload_n rfl rfl rfl ?_
          refine q_bipush rfl rfl ?_
          refine q_icge rfl rfl (fun c144 => absurd c144 (by decide)) (fun c144 => ?_)
          refine q_aload_n rfl rfl rfl ?_
          refine q_getf rfl rfl (by decide) rfl rfl ?_
          refine q_iload_n rfl rfl rfl ?_
          refine q_aload_n rfl rfl rfl ?_
          refine q_getf rfl rfl (by decide) rfl rfl ?_
          refine q_iload_n rfl rfl rfl ?_
          refine q_iald rfl rfl (by decide) (FW_54 S hW) (by decide) (q_tn (z := 0) rfl ?_)
          refine q_iast rfl rfl (by decide) rfl (by decide) ?_
          refine q_icc1 (z := 18) rfl rfl rfl rfl rfl ?_
          refine q_goto rfl ?_
          refine q_iload_n rfl rfl rfl ?_
          refine q_bipush rfl rfl ?_
          refine q_icge rfl rfl (fun c145 => absurd c145 (by decide)) (fun c145 => ?_)
          refine q_aload_n rfl rfl rfl ?_
          refine q_getf rfl rfl (by decide) rfl rfl ?_
          refine q_iload_n rfl rfl rfl ?_
          refine q_aload_n rfl rfl rfl ?_
          refine q_getf rfl rfl (by decide) rfl rfl ?_
          refine q_iload_n rfl rfl rfl ?_
          refine q_iald rfl rfl (by decide) (FW_54 S hW) (by decide) (q_tn (z := 0) rfl ?_)
          refine q_iast rfl rfl (by decide) rfl (by decide) ?_
          refine q_icc1 (z := 19) rfl rfl rfl rfl rfl ?_
          refine q_goto rfl ?_
          refine q_iload_n rfl rfl rfl ?_
          refine q_bipush rfl rfl ?_
          refine q_icge rfl rfl (fun c146 => absurd c146 (by decide)) (fun c146 => ?_)
          refine q_aload_n rfl rfl rfl ?_
          refine q_getf rfl rfl (by decide) rfl rfl ?_
          refine q_iload_n rfl rfl rfl ?_
          refine q_aload_n rfl rfl rfl ?_
          refine q_getf rfl rfl (by decide) rfl rfl ?_
          refine q_iload_n rfl rfl rfl ?_
          refine q_iald rfl rfl (by decide) (FW_54 S hW) (by decide) (q_tn (z := 0) rfl ?_)
          refine q_iast rfl rfl (by decide) rfl (by decide) ?_
          refine q_icc1 (z := 20) rfl rfl rfl rfl rfl ?_
          refine q_goto rfl ?_
          refine q_iload_n rfl rfl rfl ?_
          refine q_bipush rfl rfl ?_
          refine q_icge rfl rfl (fun c147 => ?_) (fun c147 => absurd (by decide) c147)
          refine q_ret rfl rfl ?_
          refine ⟨rfl, ?_⟩
          refine q_iload_n rfl rfl rfl ?_
          refine q_switch (q := 149) rfl rfl ?_
          refine q_aload_n rfl rfl rfl ?_
          refine q_getf rfl rfl (by decide) rfl rfl ?_
          refine q_bipush rfl rfl ?_
          refine q_iload_n rfl rfl rfl ?_
          refine q_iadd rfl rfl (q_tn (z := 15) rfl ?_)
          refine q_iald rfl rfl (by decide) (FW_54 S hW) (by decide) (q_tn (z := 0) rfl ?_)
          refine q_iret rfl rfl trivial ?_
          refine ⟨_, rfl, ?_⟩
          refine q_iceq rfl rfl (fun c148 => ?_) (fun c148 => absurd (by decide) c148)
          refine q_icc4 (z := 6) rfl rfl rfl rfl rfl ?_
          refine q_goto rfl ?_
          refine q_iload rfl rfl rfl ?_
          refine q_aload_nF rfl rfl rfl ?_
          refine q_alenX (x := 6) rfl rfl rfl ?_
          refine q_bipush rfl rfl ?_
          refine q_isub rfl rfl (q_tn (z := 0) rfl ?_)
          refine q_icgt rfl rfl (fun c149 => ?_) (fun c149 => absurd (by decide) c149)
          refine q_iconst rfl rfl ?_
          refine q_iret rfl rfl rfl ?_
          exact hK _ _
  · refine q_iload_n rfl rfl rfl ?_
    refine q_bipush rfl rfl ?_
    refine q_icne rfl rfl (fun c150 => ?_) (fun c150 => ?_)
    · subst c150
      refine q_iload_n rfl rfl rfl ?_
      refine q_iconst rfl rfl ?_
      refine q_nS2 rfl rfl (Or.inl rfl) rfl rfl ⟨rfl, rfl⟩ rfl ?_
      change PQ _ _ _ mm_X11_within 0 [.int x2, .int 3] [] _ _ 0 0 _
      refine q_iload_n rfl rfl rfl ?_
      refine q_iflt rfl rfl (fun c151 => ?_) (fun c151 => ?_)
      · refine q_iconst rfl rfl ?_
        refine q_iret rfl rfl rfl ?_
        refine ⟨_, rfl, ?_⟩
        refine q_ifeq rfl rfl (fun c152 => ?_) (fun c152 => absurd (by decide) c152)
        refine q_iconst rfl rfl ?_
        refine q_iret rfl rfl trivial ?_
        refine ⟨_, rfl, ?_⟩
        refine q_aload_n rfl rfl rfl ?_
        refine q_aload_nF rfl rfl rfl ?_
        refine q_iload rfl rfl rfl ?_
        refine q_iconst rfl rfl ?_
        refine q_iadd rfl rfl (q_tn (z := 1) rfl ?_)
        refine q_ialdX (x := 6) rfl rfl rfl hx1 ?_
        refine q_aload_nF rfl rfl rfl ?_
        refine q_iload rfl rfl rfl ?_
        refine q_iconst rfl rfl ?_
        refine q_iadd rfl rfl (q_tn (z := 2) rfl ?_)
        refine q_ialdX (x := x2) rfl rfl rfl hx2 ?_
        refine q_nV2 rfl rfl (Or.inl rfl) rfl rfl rfl (by decide) (FW_46 S hW) ⟨rfl, rfl⟩ rfl ?_
        change PQ _ _ _ mm_X12_see 0 [.ref 46, .int 6, .int x2] [] _ _ 0 0 _
        refine q_aload_n rfl rfl rfl ?_
        refine q_iload_n rfl rfl rfl ?_
        refine q_iconst rfl rfl ?_
        refine q_bipush rfl rfl ?_
        refine q_nV3 rfl rfl (Or.inl rfl) rfl rfl rfl (by decide) (FW_46 S hW) ⟨rfl, rfl⟩ rfl ?_
        change PQ _ _ _ mm_X12_in 0 [.ref 46, .int 6, .int 0, .int 6] [] _ _ 0 0 _
        refine q_iload_n rfl rfl rfl ?_
        refine q_iload_n rfl rfl rfl ?_
        refine q_iclt rfl rfl (fun c153 => absurd c153 (by decide)) (fun c153 => ?_)
        refine q_iload_n rfl rfl rfl ?_
        refine q_iload_n rfl rfl rfl ?_
        refine q_icgt rfl rfl (fun c154 => absurd c154 (by decide)) (fun c154 => ?_)
        refine q_iconst rfl rfl ?_
        refine q_goto rfl ?_
        refine q_iret rfl rfl rfl ?_
        refine ⟨_, rfl, ?_⟩
        refine q_ifeq rfl rfl (fun c155 => absurd c155 (by decide)) (fun c155 => ?_)
        refine q_iload_n rfl rfl rfl ?_
        refine q_iconst rfl rfl ?_
        refine q_icge rfl rfl (fun c156 => ?_) (fun c156 => absurd (by decide) c156)
        refine q_aload_n rfl rfl rfl ?_
        refine q_iload_n rfl rfl rfl ?_
        refine q_iconst rfl rfl ?_
        refine q_iload_n rfl rfl rfl ?_
        refine q_iconst rfl rfl ?_
        refine q_icne rfl rfl (fun c157 => absurd c157 (by decide)) (fun c157 => ?_)
        refine q_iconst rfl rfl ?_
        refine q_nV3 rfl rfl (Or.inl rfl) rfl rfl rfl (by decide) (FW_46 S hW) ⟨rfl, rfl⟩ rfl ?_
        change PQ _ _ _ mm_X12_in 0 [.ref 46, .int x2, .int 0, .int 2] [] _ _ 0 0 _
        refine q_iload_n rfl rfl rfl ?_
        refine q_iload_n rfl rfl rfl ?_
        refine q_iclt rfl rfl (fun c158 => ?_) (fun c158 => absurd (i_lt_t (i_ltle c151 (B := (-1)) rfl) rfl) c158)
        refine q_iconst rfl rfl ?_
        refine q_iret rfl rfl rfl ?_
        refine ⟨_, rfl, ?_⟩
        refine q_ifne rfl rfl (fun c159 => ?_) (fun c159 => absurd (by decide) c159)
        refine q_iconst rfl rfl ?_
        refine q_iret rfl rfl trivial ?_
        refine ⟨_, rfl, ?_⟩
        refine q_iceq rfl rfl (fun c160 => ?_) (fun c160 => absurd (by decide) c160)
        refine q_icc4 (z := 6) rfl rfl rfl rfl rfl ?_
        refine q_goto rfl ?_
        refine q_iload rfl rfl rfl ?_
        refine q_aload_nF rfl rfl rfl ?_
        refine q_alenX (x := 6) rfl rfl rfl ?_
        refine q_bipush rfl rfl ?_
        refine q_isub rfl rfl (q_tn (z := 0) rfl ?_)
        refine q_icgt rfl rfl (fun c161 => ?_) (fun c161 => absurd (by decide) c161)
        refine q_iconst rfl rfl ?_
        refine q_iret rfl rfl rfl ?_
        exact hK _ _
      · refine q_iload_n rfl rfl rfl ?_
        refine q_iload_n rfl rfl rfl ?_
        refine q_icge rfl rfl (fun c162 => ?_) (fun c162 => ?_)
        · refine q_iconst rfl rfl ?_
          refine q_iret rfl rfl rfl ?_
          refine ⟨_, rfl, ?_⟩
          refine q_ifeq rfl rfl (fun c163 => ?_) (fun c163 => absurd (by decide) c163)
          refine q_iconst rfl rfl ?_
          refine q_iret rfl rfl trivial ?_
          refine ⟨_, rfl, ?_⟩
          refine q_aload_n rfl rfl rfl ?_
          refine q_aload_nF rfl rfl rfl ?_
          refine q_iload rfl rfl rfl ?_
          refine q_iconst rfl rfl ?_
          refine q_iadd rfl rfl (q_tn (z := 1) rfl ?_)
          refine q_ialdX (x := 6) rfl rfl rfl hx1 ?_
          refine q_aload_nF rfl rfl rfl ?_
          refine q_iload rfl rfl rfl ?_
          refine q_iconst rfl rfl ?_
          refine q_iadd rfl rfl (q_tn (z := 2) rfl ?_)
          refine q_ialdX (x := x2) rfl rfl rfl hx2 ?_
          refine q_nV2 rfl rfl (Or.inl rfl) rfl rfl rfl (by decide) (FW_46 S hW) ⟨rfl, rfl⟩ rfl ?_
          change PQ _ _ _ mm_X12_see 0 [.ref 46, .int 6, .int x2] [] _ _ 0 0 _
          refine q_aload_n rfl rfl rfl ?_
          refine q_iload_n rfl rfl rfl ?_
          refine q_iconst rfl rfl ?_
          refine q_bipush rfl rfl ?_
          refine q_nV3 rfl rfl (Or.inl rfl) rfl rfl rfl (by decide) (FW_46 S hW) ⟨rfl, rfl⟩ rfl ?_
          change PQ _ _ _ mm_X12_in 0 [.ref 46, .int 6, .int 0, .int 6] [] _ _ 0 0 _
          refine q_iload_n rfl rfl rfl ?_
          refine q_iload_n rfl rfl rfl ?_
          refine q_iclt rfl rfl (fun c164 => absurd c164 (by decide)) (fun c164 => ?_)
          refine q_iload_n rfl rfl rfl ?_
          refine q_iload_n rfl rfl rfl ?_
          refine q_icgt rfl rfl (fun c165 => absurd c165 (by decide)) (fun c165 => ?_)
          refine q_iconst rfl rfl ?_
          refine q_goto rfl ?_
          refine q_iret rfl rfl rfl ?_
          refine ⟨_, rfl, ?_⟩
          refine q_ifeq rfl rfl (fun c166 => absurd c166 (by decide)) (fun c166 => ?_)
          refine q_iload_n rfl rfl rfl ?_
          refine q_iconst rfl rfl ?_
          refine q_icge rfl rfl (fun c167 => ?_) (fun c167 => absurd (by decide) c167)
          refine q_aload_n rfl rfl rfl ?_
          refine q_iload_n rfl rfl rfl ?_
          refine q_iconst rfl rfl ?_
          refine q_iload_n rfl rfl rfl ?_
          refine q_iconst rfl rfl ?_
          refine q_icne rfl rfl (fun c168 => absurd c168 (by decide)) (fun c168 => ?_)
          refine q_iconst rfl rfl ?_
          refine q_nV3 rfl rfl (Or.inl rfl) rfl rfl rfl (by decide) (FW_46 S hW) ⟨rfl, rfl⟩ rfl ?_
          change PQ _ _ _ mm_X12_in 0 [.ref 46, .int x2, .int 0, .int 2] [] _ _ 0 0 _
          refine q_iload_n rfl rfl rfl ?_
          refine q_iload_n rfl rfl rfl ?_
          refine q_iclt rfl rfl (fun c169 => absurd c169 (i_lt_f c162 rfl)) (fun c169 => ?_)
          refine q_iload_n rfl rfl rfl ?_
          refine q_iload_n rfl rfl rfl ?_
          refine q_icgt rfl rfl (fun c170 => ?_) (fun c170 => absurd (i_gt_t c162 rfl) c170)
          refine q_iconst rfl rfl ?_
          refine q_iret rfl rfl rfl ?_
          refine ⟨_, rfl, ?_⟩
          refine q_ifne rfl rfl (fun c171 => ?_) (fun c171 => absurd (by decide) c171)
          refine q_iconst rfl rfl ?_
          refine q_iret rfl rfl trivial ?_
          refine ⟨_, rfl, ?_⟩
          refine q_iceq rfl rfl (fun c172 => ?_) (fun c172 => absurd (by decide) c172)
          refine q_icc4 (z := 6) rfl rfl rfl rfl rfl ?_
          refine q_goto rfl ?_
          refine q_iload rfl rfl rfl ?_
          refine q_aload_nF rfl rfl rfl ?_
          refine q_alenX (x := 6) rfl rfl rfl ?_
          refine q_bipush rfl rfl ?_
          refine q_isub rfl rfl (q_tn (z := 0) rfl ?_)
          refine q_icgt rfl rfl (fun c173 => ?_) (fun c173 => absurd (by decide) c173)
          refine q_iconst rfl rfl ?_
          refine q_iret rfl rfl rfl ?_
          exact hK _ _
        · refine q_iconst rfl rfl ?_
          refine q_goto rfl ?_
          refine q_iret rfl rfl rfl ?_
          refine ⟨_, rfl, ?_⟩
          refine q_ifeq rfl rfl (fun c174 => absurd c174 (by decide)) (fun c174 => ?_)
          refine q_aload_n rfl rfl rfl ?_
          refine q_iload_n rfl rfl rfl ?_
          refine q_nV1 rfl rfl (Or.inl rfl) rfl rfl rfl (by decide) (FW_0 S hW) ⟨rfl, rfl⟩ rfl ?_
          change PQ _ _ _ mm_X11_ownerSeen 0 [.ref 0, .int x2, pm_un] [] _ _ 0 0 _
          refine q_aload_n rfl rfl rfl ?_
          refine q_getf rfl rfl (by decide) (FW_0 S hW) rfl ?_
          refine q_iload_n rfl rfl rfl ?_
          refine q_nS2 rfl rfl (Or.inl rfl) rfl rfl ⟨rfl, rfl⟩ rfl ?_
          change PQ _ _ _ mm_X0_owner 0 [.long 0, pm_un, .int x2] [] _ _ 0 0 _
          refine q_lload_n rfl rfl rfl ?_
          refine q_bipush rfl rfl ?_
          refine q_iconst rfl rfl ?_
          refine q_iload_n rfl rfl rfl ?_
          rcases i_en2 (i_nlt c151) (i_ltle (i_nle c162) (B := 2) rfl) with rfl | rfl | rfl
          · refine q_imul rfl rfl (q_tn (z := 0) rfl ?_)
            refine q_iadd rfl rfl (q_tn (z := 52) rfl ?_)
            refine q_lushr rfl rfl (q_tnl (z := 0) rfl ?_)
            refine q_l2i rfl rfl (q_tn (z := 0) rfl ?_)
            refine q_iconst rfl rfl ?_
            refine q_iand rfl rfl (q_tn (z := 0) rfl ?_)
            refine q_iconst rfl rfl ?_
            refine q_isub rfl rfl (q_tn (z := (-1)) rfl ?_)
            refine q_iret rfl rfl trivial ?_
            refine ⟨_, rfl, ?_⟩
            refine q_ist2n rfl rfl rfl rfl ?_
            refine q_iload_n rfl rfl rfl ?_
            refine q_ifge rfl rfl (fun c175 => absurd c175 (by decide)) (fun c175 => ?_)
            refine q_bipush rfl rfl ?_
            refine q_goto rfl ?_
            refine q_iret rfl rfl trivial ?_
            refine ⟨_, rfl, ?_⟩
            refine q_goto rfl ?_
            refine q_iret rfl rfl trivial ?_
            refine ⟨_, rfl, ?_⟩
            refine q_aload_n rfl rfl rfl ?_
            refine q_aload_nF rfl rfl rfl ?_
            refine q_iload rfl rfl rfl ?_
            refine q_iconst rfl rfl ?_
            refine q_iadd rfl rfl (q_tn (z := 1) rfl ?_)
            refine q_ialdX (x := 6) rfl rfl rfl hx1 ?_
            refine q_aload_nF rfl rfl rfl ?_
            refine q_iload rfl rfl rfl ?_
            refine q_iconst rfl rfl ?_
            refine q_iadd rfl rfl (q_tn (z := 2) rfl ?_)
            refine q_ialdX (x := 0) rfl rfl rfl hx2 ?_
            refine q_nV2 rfl rfl (Or.inl rfl) rfl rfl rfl (by decide) (FW_46 S hW) ⟨rfl, rfl⟩ rfl ?_
            change PQ _ _ _ mm_X12_see 0 [.ref 46, .int 6, .int 0] [] _ _ 0 0 _
            refine q_aload_n rfl rfl rfl ?_
            refine q_iload_n rfl rfl rfl ?_
            refine q_iconst rfl rfl ?_
            refine q_bipush rfl rfl ?_
            refine q_nV3 rfl rfl (Or.inl rfl) rfl rfl rfl (by decide) (FW_46 S hW) ⟨rfl, rfl⟩ rfl ?_
            change PQ _ _ _ mm_X12_in 0 [.ref 46, .int 6, .int 0, .int 6] [] _ _ 0 0 _
            refine q_iload_n rfl rfl rfl ?_
            refine q_iload_n rfl rfl rfl ?_
            refine q_iclt rfl rfl (fun c176 => absurd c176 (by decide)) (fun c176 => ?_)
            refine q_iload_n rfl rfl rfl ?_
            refine q_iload_n rfl rfl rfl ?_
            refine q_icgt rfl rfl (fun c177 => absurd c177 (by decide)) (fun c177 => ?_)
            refine q_iconst rfl rfl ?_
            refine q_goto rfl ?_
            refine q_iret rfl rfl rfl ?_
            refine ⟨_, rfl, ?_⟩
            refine q_ifeq rfl rfl (fun c178 => absurd c178 (by decide)) (fun c178 => ?_)
            refine q_iload_n rfl rfl rfl ?_
            refine q_iconst rfl rfl ?_
            refine q_icge rfl rfl (fun c179 => ?_) (fun c179 => absurd (by decide) c179)
            refine q_aload_n rfl rfl rfl ?_
            refine q_iload_n rfl rfl rfl ?_
            refine q_iconst rfl rfl ?_
            refine q_iload_n rfl rfl rfl ?_
            refine q_iconst rfl rfl ?_
            refine q_icne rfl rfl (fun c180 => absurd c180 (by decide)) (fun c180 => ?_)
            refine q_iconst rfl rfl ?_
            refine q_nV3 rfl rfl (Or.inl rfl) rfl rfl rfl (by decide) (FW_46 S hW) ⟨rfl, rfl⟩ rfl ?_
            change PQ _ _ _ mm_X12_in 0 [.ref 46, .int 0, .int 0, .int 2] [] _ _ 0 0 _
            refine q_iload_n rfl rfl rfl ?_
            refine q_iload_n rfl rfl rfl ?_
            refine q_iclt rfl rfl (fun c181 => absurd c181 (by decide)) (fun c181 => ?_)
            refine q_iload_n rfl rfl rfl ?_
            refine q_iload_n rfl rfl rfl ?_
            refine q_icgt rfl rfl (fun c182 => absurd c182 (by decide)) (fun c182 => ?_)
            refine q_iconst rfl rfl ?_
            refine q_goto rfl ?_
            refine q_iret rfl rfl rfl ?_
            refine ⟨_, rfl, ?_⟩
            refine q_ifne rfl rfl (fun c183 => absurd c183 (by decide)) (fun c183 => ?_)
            refine q_aload_n rfl rfl rfl ?_
            refine q_nV0v rfl rfl (Or.inl rfl) rfl rfl rfl (by decide) (FW_46 S hW) ⟨rfl, rfl⟩ rfl ?_
            change PQ _ _ _ mm_X12_stand 0 [.ref 46, pm_un] [] _ _ 0 0 _
            refine q_aload_n rfl rfl rfl ?_
            refine q_iconst rfl rfl ?_
            refine q_putf rfl rfl (by decide) (FW_46 S hW) (by decide) rfl trivial ?_
            refine q_iconst rfl rfl ?_
            refine q_ist1n rfl rfl rfl rfl ?_
            refine q_iload_n rfl rfl rfl ?_
            refine q_bipush rfl rfl ?_
            refine q_icge rfl rfl (fun c184 => absurd c184 (by decide)) (fun c184 => ?_)
            refine q_aload_n rfl rfl rfl ?_
            refine q_getf rfl rfl (by decide) rfl rfl ?_
            refine q_iload_n rfl rfl rfl ?_
            refine q_aload_n rfl rfl rfl ?_
            refine q_getf rfl rfl (by decide) rfl rfl ?_
            refine q_iload_n rfl rfl rfl ?_
            refine q_iald rfl rfl (by decide) (FW_54 S hW) (by decide) (q_tn (z := 10) rfl ?_)
            refine q_iast rfl rfl (by decide) (FW_52 S hW) (by decide) ?_
            refine q_icc1 (z := 1) rfl rfl rfl rfl rfl ?_
            refine q_goto rfl ?_
            refine q_iload_n rfl rfl rfl ?_
            refine q_bipush rfl rfl ?_
            refine q_icge rfl rfl (fun c185 => absurd c185 (by decide)) (fun c185 => ?_)
            refine q_aload_n rfl rfl rfl ?_
            refine q_getf rfl rfl (by decide) rfl rfl ?_
            refine q_iload_n rfl rfl rfl ?_
            refine q_aload_n rfl rfl rfl ?_
            refine q_getf rfl rfl (by decide) rfl rfl ?_
            refine q_iload_n rfl rfl rfl ?_
            refine q_iald rfl rfl (by decide) (FW_54 S hW) (by decide) (q_tn (z := 0) rfl ?_)
            refine q_iast rfl rfl (by decide) rfl (by decide) ?_
            refine q_icc1 (z := 2) rfl rfl rfl rfl rfl ?_
            refine q_goto rfl ?_
            refine q_iload_n rfl rfl rfl ?_
            refine q_bipush rfl rfl ?_
            refine q_icge rfl rfl (fun c186 => absurd c186 (by decide)) (fun c186 => ?_)
            refine q_aload_n rfl rfl rfl ?_
            refine q_getf rfl rfl (by decide) rfl rfl ?_
            refine q_iload_n rfl rfl rfl ?_
            refine q_aload_n rfl rfl rfl ?_
            refine q_getf rfl rfl (by decide) rfl rfl ?_
            refine q_iload_n rfl rfl rfl ?_
            refine q_iald rfl rfl (by decide) (FW_54 S hW) (by decide) (q_tn (z := 0) rfl ?_)
            refine q_iast rfl rfl (by decide) rfl (by decide) ?_
            refine q_icc1 (z := 3) rfl rfl rfl rfl rfl ?_
            refine q_goto rfl ?_
            refine q_iload_n rfl rfl rfl ?_
            refine q_bipush rfl rfl ?_
            refine q_icge rfl rfl (fun c187 => absurd c187 (by decide)) (fun c187 => ?_)
            refine q_aload_n rfl rfl rfl ?_
            refine q_getf rfl rfl (by decide) rfl rfl ?_
            refine q_iload_n rfl rfl rfl ?_
            refine q_aload_n rfl rfl rfl ?_
            refine q_getf rfl rfl (by decide) rfl rfl ?_
            refine q_iload_n rfl rfl rfl ?_
            refine q_iald rfl rfl (by decide) (FW_54 S hW) (by decide) (q_tn (z := 0) rfl ?_)
            refine q_iast rfl rfl (by decide) rfl (by decide) ?_
            refine q_icc1 (z := 4) rfl rfl rfl rfl rfl ?_
            refine q_goto rfl ?_
            refine q_iload_n rfl rfl rfl ?_
            refine q_bipush rfl rfl ?_
            refine q_icge rfl rfl (fun c188 => absurd c188 (by decide)) (fun c188 => ?_)
            refine q_aload_n rfl rfl rfl ?_
            refine q_getf rfl rfl (by decide) rfl rfl ?_
            refine q_iload_n rfl rfl rfl ?_
            refine q_aload_n rfl rfl rfl ?_
            refine q_getf rfl rfl (by decide) rfl rfl ?_
            refine q_iload_n rfl rfl rfl ?_
            refine q_iald rfl rfl (by decide) (FW_54 S hW) (by decide) (q_tn (z := 0) rfl ?_)
            refine q_iast rfl rfl (by decide) rfl (by decide) ?_
            refine q_icc1 (z := 5) rfl rfl rfl rfl rfl ?_
            refine q_goto rfl ?_
            refine q_iload_n rfl rfl rfl ?_
            refine q_bipush rfl rfl ?_
            refine q_icge rfl rfl (fun c189 => absurd c189 (by decide)) (fun c189 => ?_)
            refine q_aload_n rfl rfl rfl ?_
            refine q_getf rfl rfl (by decide) rfl rfl ?_
            refine q_iload_n rfl rfl rfl ?_
            refine q_aload_n rfl rfl rfl ?_
            refine q_getf rfl rfl (by decide) rfl rfl ?_
            refine q_iload_n rfl rfl rfl ?_
            refine q_iald rfl rfl (by decide) (FW_54 S hW) (by decide) (q_tn (z := 0) rfl ?_)
            refine q_iast rfl rfl (by decide) rfl (by decide) ?_
            refine q_icc1 (z := 6) rfl rfl rfl rfl rfl ?_
            refine q_goto rfl ?_
            refine q_iload_n rfl rfl rfl ?_
            refine q_bipush rfl rfl ?_
            refine q_icge rfl rfl (fun c190 => absurd c190 (by decide)) (fun c190 => ?_)
            refine q_aload_n rfl rfl rfl ?_
            refine q_getf rfl rfl (by decide) rfl rfl ?_
            refine q_iload_n rfl rfl rfl ?_
            refine q_aload_n rfl rfl rfl ?_
            refine q_getf rfl rfl (by decide) rfl rfl ?_
            refine q_iload_n rfl rfl rfl ?_
            refine q_iald rfl rfl (by decide) (FW_54 S hW) (by decide) (q_tn (z := 0) rfl ?_)
            refine q_iast rfl rfl (by decide) rfl (by decide) ?_
            refine q_icc1 (z := 7) rfl rfl rfl rfl rfl ?_
            refine q_goto rfl ?_
            refine q_iload_n rfl rfl rfl ?_
            refine q_bipush rfl rfl ?_
            refine q_icge rfl rfl (fun c191 => absurd c191 (by decide)) (fun c191 => ?_)
            refine q_aload_n rfl rfl rfl ?_
            refine q_getf rfl rfl (by decide) rfl rfl ?_
            refine q_iload_n rfl rfl rfl ?_
            refine q_aload_n rfl rfl rfl ?_
            refine q_getf rfl rfl (by decide) rfl rfl ?_
            refine q_iload_n rfl rfl rfl ?_
            refine q_iald rfl rfl (by decide) (FW_54 S hW) (by decide) (q_tn (z := 0) rfl ?_)
            refine q_iast rfl rfl (by decide) rfl (by decide) ?_
            refine q_icc1 (z := 8) rfl rfl rfl rfl rfl ?_
            refine q_goto rfl ?_
            refine q_iload_n rfl rfl rfl ?_
            refine q_bipush rfl rfl ?_
            refine q_icge rfl rfl (fun c192 => absurd c192 (by decide)) (fun c192 => ?_)
            refine q_aload_n rfl rfl rfl ?_
            refine q_getf rfl rfl (by decide) rfl rfl ?_
            refine q_iload_n rfl rfl rfl ?_
            refine q_aload_n rfl rfl rfl ?_
            refine q_getf rfl rfl (by decide) rfl rfl ?_
            refine q_iload_n rfl rfl rfl ?_
            refine q_iald rfl rfl (by decide) (FW_54 S hW) (by decide) (q_tn (z := 0) rfl ?_)
            refine q_iast rfl rfl (by decide) rfl (by decide) ?_
            refine q_icc1 (z := 9) rfl rfl rfl rfl rfl ?_
            refine q_goto rfl ?_
            refine q_iload_n rfl rfl rfl ?_
            refine q_bipush rfl rfl ?_
            refine q_icge rfl rfl (fun c193 => absurd c193 (by decide)) (fun c193 => ?_)
            refine q_aload_n rfl rfl rfl ?_
            refine q_getf rfl rfl (by decide) rfl rfl ?_
            refine q_iload_n rfl rfl rfl ?_
            refine q_aload_n rfl rfl rfl ?_
            refine q_getf rfl rfl (by decide) rfl rfl ?_
            refine q_iload_n rfl rfl rfl ?_
            refine q_iald rfl rfl (by decide) (FW_54 S hW) (by decide) (q_tn (z := 0) rfl ?_)
            refine q_iast rfl rfl (by decide) rfl (by decide) ?_
            refine q_icc1 (z := 10) rfl rfl rfl rfl rfl ?_
            refine q_goto rfl ?_
            refine q_iload_n rfl rfl rfl ?_
            refine q_bipush rfl rfl ?_
            refine q_icge rfl rfl (fun c194 => absurd c194 (by decide)) (fun c194 => ?_)
            refine q_aload_n rfl rfl rfl ?_
            refine q_getf rfl rfl (by decide) rfl rfl ?_
            refine q_iload_n rfl rfl rfl ?_
            refine q_aload_n rfl rfl rfl ?_
            refine q_getf rfl rfl (by decide) rfl rfl ?_
            refine q_iload_n rfl rfl rfl ?_
            refine q_iald rfl rfl (by decide) (FW_54 S hW) (by decide) (q_tn (z := 0) rfl ?_)
            refine q_iast rfl rfl (by decide) rfl (by decide) ?_
            refine q_icc1 (z := 11) rfl rfl rfl rfl rfl ?_
            refine q_goto rfl ?_
            refine q_iload_n rfl rfl rfl ?_
            refine q_bipush rfl rfl ?_
            refine q_icge rfl rfl (fun c195 => absurd c195 (by decide)) (fun c195 => ?_)
            refine q_aload_n rfl rfl rfl ?_
            refine q_getf rfl rfl (by decide) rfl rfl ?_
            refine q_iload_n rfl rfl rfl ?_
            refine q_aload_n rfl rfl rfl ?_
            refine q_getf rfl rfl (by decide) rfl rfl ?_
            refine q_iload_n rfl rfl rfl ?_
            refine q_iald rfl rfl (by decide) (FW_54 S hW) (by decide) (q_tn (z := 0) rfl ?_)
            refine q_iast rfl rfl (by decide) rfl (by decide) ?_
            refine q_icc1 (z := 12) rfl rfl rfl rfl rfl ?_
            refine q_goto rfl ?_
            refine q_iload_n rfl rfl rfl ?_
            refine q_bipush rfl rfl ?_
            refine q_icge rfl rfl (fun c196 => absurd c196 (by decide)) (fun c196 => ?_)
            refine q_aload_n rfl rfl rfl ?_
            refine q_getf rfl rfl (by decide) rfl rfl ?_
            refine q_iload_n rfl rfl rfl ?_
            refine q_aload_n rfl rfl rfl ?_
            refine q_getf rfl rfl (by decide) rfl rfl ?_
            refine q_iload_n rfl rfl rfl ?_
            refine q_iald rfl rfl (by decide) (FW_54 S hW) (by decide) (q_tn (z := 0) rfl ?_)
            refine q_iast rfl rfl (by decide) rfl (by decide) ?_
            refine q_icc1 (z := 13) rfl rfl rfl rfl rfl ?_
            refine q_goto rfl ?_
            refine q_iload_n rfl rfl rfl ?_
            refine q_bipush rfl rfl ?_
            refine q_icge rfl rfl (fun c197 => absurd c197 (by decide)) (fun c197 => ?_)
            refine q_aload_n rfl rfl rfl ?_
            refine q_getf rfl rfl (by decide) rfl rfl ?_
            refine q_iload_n rfl rfl rfl ?_
            refine q_aload_n rfl rfl rfl ?_
            refine q_getf rfl rfl (by decide) rfl rfl ?_
            refine q_iload_n rfl rfl rfl ?_
            refine q_iald rfl rfl (by decide) (FW_54 S hW) (by decide) (q_tn (z := 0) rfl ?_)
            refine q_iast rfl rfl (by decide) rfl (by decide) ?_
            refine q_icc1 (z := 14) rfl rfl rfl rfl rfl ?_
            refine q_goto rfl ?_
            refine q_iload_n rfl rfl rfl ?_
            refine q_bipush rfl rfl ?_
            refine q_icge rfl rfl (fun c198 => absurd c198 (by decide)) (fun c198 => ?_)
            refine q_aload_n rfl rfl rfl ?_
            refine q_getf rfl rfl (by decide) rfl rfl ?_
            refine q_iload_n rfl rfl rfl ?_
            refine q_aload_n rfl rfl rfl ?_
            refine q_getf rfl rfl (by decide) rfl rfl ?_
            refine q_iload_n rfl rfl rfl ?_
            refine q_iald rfl rfl (by decide) (FW_54 S hW) (by decide) (q_tn (z := 0) rfl ?_)
            refine q_iast rfl rfl (by decide) rfl (by decide) ?_
            refine q_icc1 (z := 15) rfl rfl rfl rfl rfl ?_
            refine q_goto rfl ?_
            refine q_iload_n rfl rfl rfl ?_
            refine q_bipush rfl rfl ?_
            refine q_icge rfl rfl (fun c199 => absurd c199 (by decide)) (fun c199 => ?_)
            refine q_aload_n rfl rfl rfl ?_
            refine q_getf rfl rfl (by decide) rfl rfl ?_
            refine q_iload_n rfl rfl rfl ?_
            refine q_aload_n rfl rfl rfl ?_
            refine q_getf rfl rfl (by decide) rfl rfl ?_
            refine q_iload_n rfl rfl rfl ?_
            refine q_iald rfl rfl (by decide) (FW_54 S hW) (by decide) (q_tn (z := 0) rfl ?_)
            refine q_iast rfl rfl (by decide) rfl (by decide) ?_
            refine q_icc1 (z := 16) rfl rfl rfl rfl rfl ?_
            refine q_goto rfl ?_
            refine q_iload_n rfl rfl rfl ?_
            refine q_bipush rfl rfl ?_
            refine q_icge rfl rfl (fun c200 => absurd c200 (by decide)) (fun c200 => ?_)
            refine q_aload_n rfl rfl rfl ?_
            refine q_getf rfl rfl (by decide) rfl rfl ?_
            refine q_iload_n rfl rfl rfl ?_
            refine q_aload_n rfl rfl rfl ?_
            refine q_getf rfl rfl (by decide) rfl rfl ?_
            refine q_iload_n rfl rfl rfl ?_
            refine q_iald rfl rfl (by decide) (FW_54 S hW) (by decide) (q_tn (z := 0) rfl ?_)
            refine q_iast rfl rfl (by decide) rfl (by decide) ?_
            refine q_icc1 (z := 17) rfl rfl rfl rfl rfl ?_
            refine q_goto rfl ?_
            refine q_iload_n rfl rfl rfl ?_
            refine q_bipush rfl rfl ?_
            refine q_icge rfl rfl (fun c201 => absurd c201 (by decide)) (fun c201 => ?_)
            refine q_aload_n rfl rfl rfl ?_
            refine q_getf rfl rfl (by decide) rfl rfl ?_
            refine q_iload_n rfl rfl rfl ?_
            refine q_aload_n rfl rfl rfl ?_
            refine q_getf rfl rfl (by decide) rfl rfl ?_
            refine q_iload_n rfl rfl rfl ?_
            refine q_iald rfl rfl (by decide) (FW_54 S hW) (by decide) (q_tn (z := 0) rfl ?_)
            refine q_iast rfl rfl (by decide) rfl (by decide) ?_
            refine q_icc1 (z := 18) rfl rfl rfl rfl rfl ?_
            refine q_goto rfl ?_
            refine q_iload_n rfl rfl rfl ?_
            refine q_bipush rfl rfl ?_
            refine q_icge rfl rfl (fun c202 => absurd c202 (by decide)) (fun c202 => ?_)
            refine q_aload_n rfl rfl rfl ?_
            refine q_getf rfl rfl (by decide) rfl rfl ?_
            refine q_iload_n rfl rfl rfl ?_
            refine q_aload_n rfl rfl rfl ?_
            refine q_getf rfl rfl (by decide) rfl rfl ?_
            refine q_iload_n rfl rfl rfl ?_
            refine q_iald rfl rfl (by decide) (FW_54 S hW) (by decide) (q_tn (z := 0) rfl ?_)
            refine q_iast rfl rfl (by decide) rfl (by decide) ?_
            refine q_icc1 (z := 19) rfl rfl rfl rfl rfl ?_
            refine q_goto rfl ?_
            refine q_iload_n rfl rfl rfl ?_
            refine q_bipush rfl rfl ?_
            refine q_icge rfl rfl (fun c203 => absurd c203 (by decide)) (fun c203 => ?_)
            refine q_aload_n rfl rfl rfl ?_
            refine q_getf rfl rfl (by decide) rfl rfl ?_
            refine q_iload_n rfl rfl rfl ?_
            refine q_aload_n rfl rfl rfl ?_
            refine q_getf rfl rfl (by decide) rfl rfl ?_
            refine q_iload_n rfl rfl rfl ?_
            refine q_iald rfl rfl (by decide) (FW_54 S hW) (by decide) (q_tn (z := 0) rfl ?_)
            refine q_iast rfl rfl (by decide) rfl (by decide) ?_
            refine q_icc1 (z := 20) rfl rfl rfl rfl rfl ?_
            refine q_goto rfl ?_
            refine q_iload_n rfl rfl rfl ?_
            refine q_bipush rfl rfl ?_
            refine q_icge rfl rfl (fun c204 => ?_) (fun c204 => absurd (by decide) c204)
            refine q_ret rfl rfl ?_
            refine ⟨rfl, ?_⟩
            refine q_iload_n rfl rfl rfl ?_
            refine q_switch (q := 159) rfl rfl ?_
            refine q_aload_n rfl rfl rfl ?_
            refine q_getf rfl rfl (by decide) rfl rfl ?_
            refine q_bipush rfl rfl ?_
            refine q_iload_n rfl rfl rfl ?_
            refine q_iadd rfl rfl (q_tn (z := 16) rfl ?_)
            refine q_iald rfl rfl (by decide) (FW_54 S hW) (by decide) (q_tn (z := 0) rfl ?_)
            refine q_ifne rfl rfl (fun c205 => ?_) (fun c205 => absurd (by decide) c205)
            refine q_bipush rfl rfl ?_
            refine q_goto rfl ?_
            refine q_iret rfl rfl trivial ?_
            refine ⟨_, rfl, ?_⟩
            refine q_iceq rfl rfl (fun c206 => ?_) (fun c206 => absurd (by decide) c206)
            refine q_icc4 (z := 6) rfl rfl rfl rfl rfl ?_
            refine q_goto rfl ?_
            refine q_iload rfl rfl rfl ?_
            refine q_aload_nF rfl rfl rfl ?_
            refine q_alenX (x := 6) rfl rfl rfl ?_
            refine q_bipush rfl rfl ?_
            refine q_isub rfl rfl (q_tn (z := 0) rfl ?_)
            refine q_icgt rfl rfl (fun c207 => ?_) (fun c207 => absurd (by decide) c207)
            refine q_iconst rfl rfl ?_
            refine q_iret rfl rfl rfl ?_
            exact hK _ _
          · refine q_imul rfl rfl (q_tn (z := 2) rfl ?_)
            refine q_iadd rfl rfl (q_tn (z := 54) rfl ?_)
            refine q_lushr rfl rfl (q_tnl (z := 0) rfl ?_)
            refine q_l2i rfl rfl (q_tn (z := 0) rfl ?_)
            refine q_iconst rfl rfl ?_
            refine q_iand rfl rfl (q_tn (z := 0) rfl ?_)
            refine q_iconst rfl rfl ?_
            refine q_isub rfl rfl (q_tn (z := (-1)) rfl ?_)
            refine q_iret rfl rfl trivial ?_
            refine ⟨_, rfl, ?_⟩
            refine q_ist2n rfl rfl rfl rfl ?_
            refine q_iload_n rfl rfl rfl ?_
            refine q_ifge rfl rfl (fun c208 => absurd c208 (by decide)) (fun c208 => ?_)
            refine q_bipush rfl rfl ?_
            refine q_goto rfl ?_
            refine q_iret rfl rfl trivial ?_
            refine ⟨_, rfl, ?_⟩
            refine q_goto rfl ?_
            refine q_iret rfl rfl trivial ?_
            refine ⟨_, rfl, ?_⟩
            refine q_aload_n rfl rfl rfl ?_
            refine q_aload_nF rfl rfl rfl ?_
            refine q_iload rfl rfl rfl ?_
            refine q_iconst rfl rfl ?_
            refine q_iadd rfl rfl (q_tn (z := 1) rfl ?_)
            refine q_ialdX (x := 6) rfl rfl rfl hx1 ?_
            refine q_aload_nF rfl rfl rfl ?_
            refine q_iload rfl rfl rfl ?_
            refine q_iconst rfl rfl ?_
            refine q_iadd rfl rfl (q_tn (z := 2) rfl ?_)
            refine q_ialdX (x := 1) rfl rfl rfl hx2 ?_
            refine q_nV2 rfl rfl (Or.inl rfl) rfl rfl rfl (by decide) (FW_46 S hW) ⟨rfl, rfl⟩ rfl ?_
            change PQ _ _ _ mm_X12_see 0 [.ref 46, .int 6, .int 1] [] _ _ 0 0 _
            refine q_aload_n rfl rfl rfl ?_
            refine q_iload_n rfl rfl rfl ?_
            refine q_iconst rfl rfl ?_
            refine q_bipush rfl rfl ?_
            refine q_nV3 rfl rfl (Or.inl rfl) rfl rfl rfl (by decide) (FW_46 S hW) ⟨rfl, rfl⟩ rfl ?_
            change PQ _ _ _ mm_X12_in 0 [.ref 46, .int 6, .int 0, .int 6] [] _ _ 0 0 _
            refine q_iload_n rfl rfl rfl ?_
            refine q_iload_n rfl rfl rfl ?_
            refine q_iclt rfl rfl (fun c209 => absurd c209 (by decide)) (fun c209 => ?_)
            refine q_iload_n rfl rfl rfl ?_
            refine q_iload_n rfl rfl rfl ?_
            refine q_icgt rfl rfl (fun c210 => absurd c210 (by decide)) (fun c210 => ?_)
            refine q_iconst rfl rfl ?_
            refine q_goto rfl ?_
            refine q_iret rfl rfl rfl ?_
            refine ⟨_, rfl, ?_⟩
            refine q_ifeq rfl rfl (fun c211 => absurd c211 (by decide)) (fun c211 => ?_)
            refine q_iload_n rfl rfl rfl ?_
            refine q_iconst rfl rfl ?_
            refine q_icge rfl rfl (fun c212 => ?_) (fun c212 => absurd (by decide) c212)
            refine q_aload_n rfl rfl rfl ?_
            refine q_iload_n rfl rfl rfl ?_
            refine q_iconst rfl rfl ?_
            refine q_iload_n rfl rfl rfl ?_
            refine q_iconst rfl rfl ?_
            refine q_icne rfl rfl (fun c213 => absurd c213 (by decide)) (fun c213 => ?_)
            refine q_iconst rfl rfl ?_
            refine q_nV3 rfl rfl (Or.inl rfl) rfl rfl rfl (by decide) (FW_46 S hW) ⟨rfl, rfl⟩ rfl ?_
            change PQ _ _ _ mm_X12_in 0 [.ref 46, .int 1, .int 0, .int 2] [] _ _ 0 0 _
            refine q_iload_n rfl rfl rfl ?_
            refine q_iload_n rfl rfl rfl ?_
            refine q_iclt rfl rfl (fun c214 => absurd c214 (by decide)) (fun c214 => ?_)
            refine q_iload_n rfl rfl rfl ?_
            refine q_iload_n rfl rfl rfl ?_
            refine q_icgt rfl rfl (fun c215 => absurd c215 (by decide)) (fun c215 => ?_)
            refine q_iconst rfl rfl ?_
            refine q_goto rfl ?_
            refine q_iret rfl rfl rfl ?_
            refine ⟨_, rfl, ?_⟩
            refine q_ifne rfl rfl (fun c216 => absurd c216 (by decide)) (fun c216 => ?_)
            refine q_aload_n rfl rfl rfl ?_
            refine q_nV0v rfl rfl (Or.inl rfl) rfl rfl rfl (by decide) (FW_46 S hW) ⟨rfl, rfl⟩ rfl ?_
            change PQ _ _ _ mm_X12_stand 0 [.ref 46, pm_un] [] _ _ 0 0 _
            refine q_aload_n rfl rfl rfl ?_
            refine q_iconst rfl rfl ?_
            refine q_putf rfl rfl (by decide) (FW_46 S hW) (by decide) rfl trivial ?_
            refine q_iconst rfl rfl ?_
            refine q_ist1n rfl rfl rfl rfl ?_
            refine q_iload_n rfl rfl rfl ?_
            refine q_bipush rfl rfl ?_
            refine q_icge rfl rfl (fun c217 => absurd c217 (by decide)) (fun c217 => ?_)
            refine q_aload_n rfl rfl rfl ?_
            refine q_getf rfl rfl (by decide) rfl rfl ?_
            refine q_iload_n rfl rfl rfl ?_
            refine q_aload_n rfl rfl rfl ?_
            refine q_getf rfl rfl (by decide) rfl rfl ?_
            refine q_iload_n rfl rfl rfl ?_
            refine q_iald rfl rfl (by decide) (FW_54 S hW) (by decide) (q_tn (z := 10) rfl ?_)
            refine q_iast rfl rfl (by decide) (FW_52 S hW) (by decide) ?_
            refine q_icc1 (z := 1) rfl rfl rfl rfl rfl ?_
            refine q_goto rfl ?_
            refine q_iload_n rfl rfl rfl ?_
            refine q_bipush rfl rfl ?_
            refine q_icge rfl rfl (fun c218 => absurd c218 (by decide)) (fun c218 => ?_)
            refine q_aload_n rfl rfl rfl ?_
            refine q_getf rfl rfl (by decide) rfl rfl ?_
            refine q_iload_n rfl rfl rfl ?_
            refine q_aload_n rfl rfl rfl ?_
            refine q_getf rfl rfl (by decide) rfl rfl ?_
            refine q_iload_n rfl rfl rfl ?_
            refine q_iald rfl rfl (by decide) (FW_54 S hW) (by decide) (q_tn (z := 0) rfl ?_)
            refine q_iast rfl rfl (by decide) rfl (by decide) ?_
            refine q_icc1 (z := 2) rfl rfl rfl rfl rfl ?_
            refine q_goto rfl ?_
            refine q_iload_n rfl rfl rfl ?_
            refine q_bipush rfl rfl ?_
            refine q_icge rfl rfl (fun c219 => absurd c219 (by decide)) (fun c219 => ?_)
            refine q_aload_n rfl rfl rfl ?_
            refine q_getf rfl rfl (by decide) rfl rfl ?_
            refine q_iload_n rfl rfl rfl ?_
            refine q_aload_n rfl rfl rfl ?_
            refine q_getf rfl rfl (by decide) rfl rfl ?_
            refine q_iload_n rfl rfl rfl ?_
            refine q_iald rfl rfl (by decide) (FW_54 S hW) (by decide) (q_tn (z := 0) rfl ?_)
            refine q_iast rfl rfl (by decide) rfl (by decide) ?_
            refine q_icc1 (z := 3) rfl rfl rfl rfl rfl ?_
            refine q_goto rfl ?_
            refine q_iload_n rfl rfl rfl ?_
            refine q_bipush rfl rfl ?_
            refine q_icge rfl rfl (fun c220 => absurd c220 (by decide)) (fun c220 => ?_)
            refine q_aload_n rfl rfl rfl ?_
            refine q_getf rfl rfl (by decide) rfl rfl ?_
            refine q_iload_n rfl rfl rfl ?_
            refine q_aload_n rfl rfl rfl ?_
            refine q_getf rfl rfl (by decide) rfl rfl ?_
            refine q_iload_n rfl rfl rfl ?_
            refine q_iald rfl rfl (by decide) (FW_54 S hW) (by decide) (q_tn (z := 0) rfl ?_)
            refine q_iast rfl rfl (by decide) rfl (by decide) ?_
            refine q_icc1 (z := 4) rfl rfl rfl rfl rfl ?_
            refine q_goto rfl ?_
            refine q_iload_n rfl rfl rfl ?_
            refine q_bipush rfl rfl ?_
            refine q_icge rfl rfl (fun c221 => absurd c221 (by decide)) (fun c221 => ?_)
            refine q_aload_n rfl rfl rfl ?_
            refine q_getf rfl rfl (by decide) rfl rfl ?_
            refine q_iload_n rfl rfl rfl ?_
            refine q_aload_n rfl rfl rfl ?_
            refine q_getf rfl rfl (by decide) rfl rfl ?_
            refine q_iload_n rfl rfl rfl ?_
            refine q_iald rfl rfl (by decide) (FW_54 S hW) (by decide) (q_tn (z := 0) rfl ?_)
            refine q_iast rfl rfl (by decide) rfl (by decide) ?_
            refine q_icc1 (z := 5) rfl rfl rfl rfl rfl ?_
            refine q_goto rfl ?_
            refine q_iload_n rfl rfl rfl ?_
            refine q_bipush rfl rfl ?_
            refine q_icge rfl rfl (fun c222 => absurd c222 (by decide)) (fun c222 => ?_)
            refine q_aload_n rfl rfl rfl ?_
            refine q_getf rfl rfl (by decide) rfl rfl ?_
            refine q_iload_n rfl rfl rfl ?_
            refine q_aload_n rfl rfl rfl ?_
            refine q_getf rfl rfl (by decide) rfl rfl ?_
            refine q_iload_n rfl rfl rfl ?_
            refine q_iald rfl rfl (by decide) (FW_54 S hW) (by decide) (q_tn (z := 0) rfl ?_)
            refine q_iast rfl rfl (by decide) rfl (by decide) ?_
            refine q_icc1 (z := 6) rfl rfl rfl rfl rfl ?_
            refine q_goto rfl ?_
            refine q_iload_n rfl rfl rfl ?_
            refine q_bipush rfl rfl ?_
            refine q_icge rfl rfl (fun c223 => absurd c223 (by decide)) (fun c223 => ?_)
            refine q_aload_n rfl rfl rfl ?_
            refine q_getf rfl rfl (by decide) rfl rfl ?_
            refine q_iload_n rfl rfl rfl ?_
            refine q_aload_n rfl rfl rfl ?_
            refine q_getf rfl rfl (by decide) rfl rfl ?_
            refine q_iload_n rfl rfl rfl ?_
            refine q_iald rfl rfl (by decide) (FW_54 S hW) (by decide) (q_tn (z := 0) rfl ?_)
            refine q_iast rfl rfl (by decide) rfl (by decide) ?_
            refine q_icc1 (z := 7) rfl rfl rfl rfl rfl ?_
            refine q_goto rfl ?_
            refine q_iload_n rfl rfl rfl ?_
            refine q_bipush rfl rfl ?_
            refine q_icge rfl rfl (fun c224 => absurd c224 (by decide)) (fun c224 => ?_)
            refine q_aload_n rfl rfl rfl ?_
            refine q_getf rfl rfl (by decide) rfl rfl ?_
            refine q_iload_n rfl rfl rfl ?_
            refine q_aload_n rfl rfl rfl ?_
            refine q_getf rfl rfl (by decide) rfl rfl ?_
            refine q_iload_n rfl rfl rfl ?_
            refine q_iald rfl rfl (by decide) (FW_54 S hW) (by decide) (q_tn (z := 0) rfl ?_)
            refine q_iast rfl rfl (by decide) rfl (by decide) ?_
            refine q_icc1 (z := 8) rfl rfl rfl rfl rfl ?_
            refine q_goto rfl ?_
            refine q_iload_n rfl rfl rfl ?_
            refine q_bipush rfl rfl ?_
            refine q_icge rfl rfl (fun c225 => absurd c225 (by decide)) (fun c225 => ?_)
            refine q_aload_n rfl rfl rfl ?_
            refine q_getf rfl rfl (by decide) rfl rfl ?_
            refine q_iload_n rfl rfl rfl ?_
            refine q_aload_n rfl rfl rfl ?_
            refine q_getf rfl rfl (by decide) rfl rfl ?_
            refine q_iload_n rfl rfl rfl ?_
            refine q_iald rfl rfl (by decide) (FW_54 S hW) (by decide) (q_tn (z := 0) rfl ?_)
            refine q_iast rfl rfl (by decide) rfl (by decide) ?_
            refine q_icc1 (z := 9) rfl rfl rfl rfl rfl ?_
            refine q_goto rfl ?_
            refine q_iload_n rfl rfl rfl ?_
            refine q_bipush rfl rfl ?_
            refine q_icge rfl rfl (fun c226 => absurd c226 (by decide)) (fun c226 => ?_)
            refine q_aload_n rfl rfl rfl ?_
            refine q_getf rfl rfl (by decide) rfl rfl ?_
            refine q_iload_n rfl rfl rfl ?_
            refine q_aload_n rfl rfl rfl ?_
            refine q_getf rfl rfl (by decide) rfl rfl ?_
            refine q_iload_n rfl rfl rfl ?_
            refine q_iald rfl rfl (by decide) (FW_54 S hW) (by decide) (q_tn (z := 0) rfl ?_)
            refine q_iast rfl rfl (by decide) rfl (by decide) ?_
            refine q_icc1 (z := 10) rfl rfl rfl rfl rfl ?_
            refine q_goto rfl ?_
            refine q_iload_n rfl rfl rfl ?_
            refine q_bipush rfl rfl ?_
            refine q_icge rfl rfl (fun c227 => absurd c227 (by decide)) (fun c227 => ?_)
            refine q_aload_n rfl rfl rfl ?_
            refine q_getf rfl rfl (by decide) rfl rfl ?_
            refine q_iload_n rfl rfl rfl ?_
            refine q_aload_n rfl rfl rfl ?_
            refine q_getf rfl rfl (by decide) rfl rfl ?_
            refine q_iload_n rfl rfl rfl ?_
            refine q_iald rfl rfl (by decide) (FW_54 S hW) (by decide) (q_tn (z := 0) rfl ?_)
            refine q_iast rfl rfl (by decide) rfl (by decide) ?_
            refine q_icc1 (z := 11) rfl rfl rfl rfl rfl ?_
            refine q_goto rfl ?_
            refine q_iload_n rfl rfl rfl ?_
            refine q_bipush rfl rfl ?_
            refine q_icge rfl rfl (fun c228 => absurd c228 (by decide)) (fun c228 => ?_)
            refine q_aload_n rfl rfl rfl ?_
            refine q_getf rfl rfl (by decide) rfl rfl ?_
            refine q_iload_n rfl rfl rfl ?_
            refine q_aload_n rfl rfl rfl ?_
            refine q_getf rfl rfl (by decide) rfl rfl ?_
            refine q_iload_n rfl rfl rfl ?_
            refine q_iald rfl rfl (by decide) (FW_54 S hW) (by decide) (q_tn (z := 0) rfl ?_)
            refine q_iast rfl rfl (by decide) rfl (by decide) ?_
            refine q_icc1 (z := 12) rfl rfl rfl rfl rfl ?_
            refine q_goto rfl ?_
            refine q_iload_n rfl rfl rfl ?_
            refine q_bipush rfl rfl ?_
            refine q_icge rfl rfl (fun c229 => absurd c229 (by decide)) (fun c229 => ?_)
            refine q_aload_n rfl rfl rfl ?_
            refine q_getf rfl rfl (by decide) rfl rfl ?_
            refine q_iload_n rfl rfl rfl ?_
            refine q_aload_n rfl rfl rfl ?_
            refine q_getf rfl rfl (by decide) rfl rfl ?_
            refine q_iload_n rfl rfl rfl ?_
            refine q_iald rfl rfl (by decide) (FW_54 S hW) (by decide) (q_tn (z := 0) rfl ?_)
            refine q_iast rfl rfl (by decide) rfl (by decide) ?_
            refine q_icc1 (z := 13) rfl rfl rfl rfl rfl ?_
            refine q_goto rfl ?_
            refine q_iload_n rfl rfl rfl ?_
            refine q_bipush rfl rfl ?_
            refine q_icge rfl rfl (fun c230 => absurd c230 (by decide)) (fun c230 => ?_)
            refine q_aload_n rfl rfl rfl ?_
            refine q_getf rfl rfl (by decide) rfl rfl ?_
            refine q_iload_n rfl rfl rfl ?_
            refine q_aload_n rfl rfl rfl ?_
            refine q_getf rfl rfl (by decide) rfl rfl ?_
            refine q_iload_n rfl rfl rfl ?_
            refine q_iald rfl rfl (by decide) (FW_54 S hW) (by decide) (q_tn (z := 0) rfl ?_)
            refine q_iast rfl rfl (by decide) rfl (by decide) ?_
            refine q_icc1 (z := 14) rfl rfl rfl rfl rfl ?_
            refine q_goto rfl ?_
            refine q_iload_n rfl rfl rfl ?_
            refine q_bipush rfl rfl ?_
            refine q_icge rfl rfl (fun c231 => absurd c231 (by decide)) (fun c231 => ?_)
            refine q_aload_n rfl rfl rfl ?_
            refine q_getf rfl rfl (by decide) rfl rfl ?_
            refine q_iload_n rfl rfl rfl ?_
            refine q_aload_n rfl rfl rfl ?_
            refine q_getf rfl rfl (by decide) rfl rfl ?_
            refine q_iload_n rfl rfl rfl ?_
            refine q_iald rfl rfl (by decide) (FW_54 S hW) (by decide) (q_tn (z := 0) rfl ?_)
            refine q_iast rfl rfl (by decide) rfl (by decide) ?_
            refine q_icc1 (z := 15) rfl rfl rfl rfl rfl ?_
            refine q_goto rfl ?_
            refine q_iload_n rfl rfl rfl ?_
            refine q_bipush rfl rfl ?_
            refine q_icge rfl rfl (fun c232 => absurd c232 (by decide)) (fun c232 => ?_)
            refine q_aload_n rfl rfl rfl ?_
            refine q_getf rfl rfl (by decide) rfl rfl ?_
            refine q_iload_n rfl rfl rfl ?_
            refine q_aload_n rfl rfl rfl ?_
            refine q_getf rfl rfl (by decide) rfl rfl ?_
            refine q_iload_n rfl rfl rfl ?_
            refine q_iald rfl rfl (by decide) (FW_54 S hW) (by decide) (q_tn (z := 0) rfl ?_)
            refine q_iast rfl rfl (by decide) rfl (by decide) ?_
            refine q_icc1 (z := 16) rfl rfl rfl rfl rfl ?_
            refine q_goto rfl ?_
            refine q_iload_n rfl rfl rfl ?_
            refine q_bipush rfl rfl ?_
            refine q_icge rfl rfl (fun c233 => absurd c233 (by decide)) (fun c233 => ?_)
            refine q_aload_n rfl rfl rfl ?_
            refine q_getf rfl rfl (by decide) rfl rfl ?_
            refine q_iload_n rfl rfl rfl ?_
            refine q_aload_n rfl rfl rfl ?_
            refine q_getf rfl rfl (by decide) rfl rfl ?_
            refine q_iload_n rfl rfl rfl ?_
            refine q_iald rfl rfl (by decide) (FW_54 S hW) (by decide) (q_tn (z := 0) rfl ?_)
            refine q_iast rfl rfl (by decide) rfl (by decide) ?_
            refine q_icc1 (z := 17) rfl rfl rfl rfl rfl ?_
            refine q_goto rfl ?_
            refine q_iload_n rfl rfl rfl ?_
            refine q_bipush rfl rfl ?_
            refine q_icge rfl rfl (fun c234 => absurd c234 (by decide)) (fun c234 => ?_)
            refine q_aload_n rfl rfl rfl ?_
            refine q_getf rfl rfl (by decide) rfl rfl ?_
            refine q_iload_n rfl rfl rfl ?_
            refine q_aload_n rfl rfl rfl ?_
            refine q_getf rfl rfl (by decide) rfl rfl ?_
            refine q_iload_n rfl rfl rfl ?_
            refine q_iald rfl rfl (by decide) (FW_54 S hW) (by decide) (q_tn (z := 0) rfl ?_)
            refine q_iast rfl rfl (by decide) rfl (by decide) ?_
            refine q_icc1 (z := 18) rfl rfl rfl rfl rfl ?_
            refine q_goto rfl ?_
            refine q_iload_n rfl rfl rfl ?_
            refine q_bipush rfl rfl ?_
            refine q_icge rfl rfl (fun c235 => absurd c235 (by decide)) (fun c235 => ?_)
            refine q_aload_n rfl rfl rfl ?_
            refine q_getf rfl rfl (by decide) rfl rfl ?_
            refine q_iload_n rfl rfl rfl ?_
            refine q_aload_n rfl rfl rfl ?_
            refine q_getf rfl rfl (by decide) rfl rfl ?_
            refine q_iload_n rfl rfl rfl ?_
            refine q_iald rfl rfl (by decide) (FW_54 S hW) (by decide) (q_tn (z := 0) rfl ?_)
            refine q_iast rfl rfl (by decide) rfl (by decide) ?_
            refine q_icc1 (z := 19) rfl rfl rfl rfl rfl ?_
            refine q_goto rfl ?_
            refine q_iload_n rfl rfl rfl ?_
            refine q_bipush rfl rfl ?_
            refine q_icge rfl rfl (fun c236 => absurd c236 (by decide)) (fun c236 => ?_)
            refine q_aload_n rfl rfl rfl ?_
            refine q_getf rfl rfl (by decide) rfl rfl ?_
            refine q_iload_n rfl rfl rfl ?_
            refine q_aload_n rfl rfl rfl ?_
            refine q_getf rfl rfl (by decide) rfl rfl ?_
            refine q_iload_n rfl rfl rfl ?_
            refine q_iald rfl rfl (by decide) (FW_54 S hW) (by decide) (q_tn (z := 0) rfl ?_)
            refine q_iast rfl rfl (by decide) rfl (by decide) ?_
            refine q_icc1 (z := 20) rfl rfl rfl rfl rfl ?_
            refine q_goto rfl ?_
            refine q_iload_n rfl rfl rfl ?_
            refine q_bipush rfl rfl ?_
            refine q_icge rfl rfl (fun c237 => ?_) (fun c237 => absurd (by decide) c237)
            refine q_ret rfl rfl ?_
            refine ⟨rfl, ?_⟩
            refine q_iload_n rfl rfl rfl ?_
            refine q_switch (q := 159) rfl rfl ?_
            refine q_aload_n rfl rfl rfl ?_
            refine q_getf rfl rfl (by decide) rfl rfl ?_
            refine q_bipush rfl rfl ?_
            refine q_iload_n rfl rfl rfl ?_
            refine q_iadd rfl rfl (q_tn (z := 17) rfl ?_)
            refine q_iald rfl rfl (by decide) (FW_54 S hW) (by decide) (q_tn (z := 0) rfl ?_)
            refine q_ifne rfl rfl (fun c238 => ?_) (fun c238 => absurd (by decide) c238)
            refine q_bipush rfl rfl ?_
            refine q_goto rfl ?_
            refine q_iret rfl rfl trivial ?_
            refine ⟨_, rfl, ?_⟩
            refine q_iceq rfl rfl (fun c239 => ?_) (fun c239 => absurd (by decide) c239)
            refine q_icc4 (z := 6) rfl rfl rfl rfl rfl ?_
            refine q_goto rfl ?_
            refine q_iload rfl rfl rfl ?_
            refine q_aload_nF rfl rfl rfl ?_
            refine q_alenX (x := 6) rfl rfl rfl ?_
            refine q_bipush rfl rfl ?_
            refine q_isub rfl rfl (q_tn (z := 0) rfl ?_)
            refine q_icgt rfl rfl (fun c240 => ?_) (fun c240 => absurd (by decide) c240)
            refine q_iconst rfl rfl ?_
            refine q_iret rfl rfl rfl ?_
            exact hK _ _
          · refine q_imul rfl rfl (q_tn (z := 4) rfl ?_)
            refine q_iadd rfl rfl (q_tn (z := 56) rfl ?_)
            refine q_lushr rfl rfl (q_tnl (z := 0) rfl ?_)
            refine q_l2i rfl rfl (q_tn (z := 0) rfl ?_)
            refine q_iconst rfl rfl ?_
            refine q_iand rfl rfl (q_tn (z := 0) rfl ?_)
            refine q_iconst rfl rfl ?_
            refine q_isub rfl rfl (q_tn (z := (-1)) rfl ?_)
            refine q_iret rfl rfl trivial ?_
            refine ⟨_, rfl, ?_⟩
            refine q_ist2n rfl rfl rfl rfl ?_
            refine q_iload_n rfl rfl rfl ?_
            refine q_ifge rfl rfl (fun c241 => absurd c241 (by decide)) (fun c241 => ?_)
            refine q_bipush rfl rfl ?_
            refine q_goto rfl ?_
            refine q_iret rfl rfl trivial ?_
            refine ⟨_, rfl, ?_⟩
            refine q_goto rfl ?_
            refine q_iret rfl rfl trivial ?_
            refine ⟨_, rfl, ?_⟩
            refine q_aload_n rfl rfl rfl ?_
            refine q_aload_nF rfl rfl rfl ?_
            refine q_iload rfl rfl rfl ?_
            refine q_iconst rfl rfl ?_
            refine q_iadd rfl rfl (q_tn (z := 1) rfl ?_)
            refine q_ialdX (x := 6) rfl rfl rfl hx1 ?_
            refine q_aload_nF rfl rfl rfl ?_
            refine q_iload rfl rfl rfl ?_
            refine q_iconst rfl rfl ?_
            refine q_iadd rfl rfl (q_tn (z := 2) rfl ?_)
            refine q_ialdX (x := 2) rfl rfl rfl hx2 ?_
            refine q_nV2 rfl rfl (Or.inl rfl) rfl rfl rfl (by decide) (FW_46 S hW) ⟨rfl, rfl⟩ rfl ?_
            change PQ _ _ _ mm_X12_see 0 [.ref 46, .int 6, .int 2] [] _ _ 0 0 _
            refine q_aload_n rfl rfl rfl ?_
            refine q_iload_n rfl rfl rfl ?_
            refine q_iconst rfl rfl ?_
            refine q_bipush rfl rfl ?_
            refine q_nV3 rfl rfl (Or.inl rfl) rfl rfl rfl (by decide) (FW_46 S hW) ⟨rfl, rfl⟩ rfl ?_
            change PQ _ _ _ mm_X12_in 0 [.ref 46, .int 6, .int 0, .int 6] [] _ _ 0 0 _
            refine q_iload_n rfl rfl rfl ?_
            refine q_iload_n rfl rfl rfl ?_
            refine q_iclt rfl rfl (fun c242 => absurd c242 (by decide)) (fun c242 => ?_)
            refine q_iload_n rfl rfl rfl ?_
            refine q_iload_n rfl rfl rfl ?_
            refine q_icgt rfl rfl (fun c243 => absurd c243 (by decide)) (fun c243 => ?_)
            refine q_iconst rfl rfl ?_
            refine q_goto rfl ?_
            refine q_iret rfl rfl rfl ?_
            refine ⟨_, rfl, ?_⟩
            refine q_ifeq rfl rfl (fun c244 => absurd c244 (by decide)) (fun c244 => ?_)
            refine q_iload_n rfl rfl rfl ?_
            refine q_iconst rfl rfl ?_
            refine q_icge rfl rfl (fun c245 => ?_) (fun c245 => absurd (by decide) c245)
            refine q_aload_n rfl rfl rfl ?_
            refine q_iload_n rfl rfl rfl ?_
            refine q_iconst rfl rfl ?_
            refine q_iload_n rfl rfl rfl ?_
            refine q_iconst rfl rfl ?_
            refine q_icne rfl rfl (fun c246 => absurd c246 (by decide)) (fun c246 => ?_)
            refine q_iconst rfl rfl ?_
            refine q_nV3 rfl rfl (Or.inl rfl) rfl rfl rfl (by decide) (FW_46 S hW) ⟨rfl, rfl⟩ rfl ?_
            change PQ _ _ _ mm_X12_in 0 [.ref 46, .int 2, .int 0, .int 2] [] _ _ 0 0 _
            refine q_iload_n rfl rfl rfl ?_
            refine q_iload_n rfl rfl rfl ?_
            refine q_iclt rfl rfl (fun c247 => absurd c247 (by decide)) (fun c247 => ?_)
            refine q_iload_n rfl rfl rfl ?_
            refine q_iload_n rfl rfl rfl ?_
            refine q_icgt rfl rfl (fun c248 => absurd c248 (by decide)) (fun c248 => ?_)
            refine q_iconst rfl rfl ?_
            refine q_goto rfl ?_
            refine q_iret rfl rfl rfl ?_
            refine ⟨_, rfl, ?_⟩
            refine q_ifne rfl rfl (fun c249 => absurd c249 (by decide)) (fun c249 => ?_)
            refine q_aload_n rfl rfl rfl ?_
            refine q_nV0v rfl rfl (Or.inl rfl) rfl rfl rfl (by decide) (FW_46 S hW) ⟨rfl, rfl⟩ rfl ?_
            change PQ _ _ _ mm_X12_stand 0 [.ref 46, pm_un] [] _ _ 0 0 _
            refine q_aload_n rfl rfl rfl ?_
            refine q_iconst rfl rfl ?_
            refine q_putf rfl rfl (by decide) (FW_46 S hW) (by decide) rfl trivial ?_
            refine q_iconst rfl rfl ?_
            refine q_ist1n rfl rfl rfl rfl ?_
            refine q_iload_n rfl rfl rfl ?_
            refine q_bipush rfl rfl ?_
            refine q_icge rfl rfl (fun c250 => absurd c250 (by decide)) (fun c250 => ?_)
            refine q_aload_n rfl rfl rfl ?_
            refine q_getf rfl rfl (by decide) rfl rfl ?_
            refine q_iload_n rfl rfl rfl ?_
            refine q_aload_n rfl rfl rfl ?_
            refine q_getf rfl rfl (by decide) rfl rfl ?_
            refine q_iload_n rfl rfl rfl ?_
            refine q_iald rfl rfl (by decide) (FW_54 S hW) (by decide) (q_tn (z := 10) rfl ?_)
            refine q_iast rfl rfl (by decide) (FW_52 S hW) (by decide) ?_
            refine q_icc1 (z := 1) rfl rfl rfl rfl rfl ?_
            refine q_goto rfl ?_
            refine q_iload_n rfl rfl rfl ?_
            refine q_bipush rfl rfl ?_
            refine q_icge rfl rfl (fun c251 => absurd c251 (by decide)) (fun c251 => ?_)
            refine q_aload_n rfl rfl rfl ?_
            refine q_getf rfl rfl (by decide) rfl rfl ?_
            refine q_iload_n rfl rfl rfl ?_
            refine q_aload_n rfl rfl rfl ?_
            refine q_getf rfl rfl (by decide) rfl rfl ?_
            refine q_iload_n rfl rfl rfl ?_
            refine q_iald rfl rfl (by decide) (FW_54 S hW) (by decide) (q_tn (z := 0) rfl ?_)
            refine q_iast rfl rfl (by decide) rfl (by decide) ?_
            refine q_icc1 (z := 2) rfl rfl rfl rfl rfl ?_
            refine q_goto rfl ?_
            refine q_iload_n rfl rfl rfl ?_
            refine q_bipush rfl rfl ?_
            refine q_icge rfl rfl (fun c252 => absurd c252 (by decide)) (fun c252 => ?_)
            refine q_aload_n rfl rfl rfl ?_
            refine q_getf rfl rfl (by decide) rfl rfl ?_
            refine q_iload_n rfl rfl rfl ?_
            refine q_aload_n rfl rfl rfl ?_
            refine q_getf rfl rfl (by decide) rfl rfl ?_
            refine q_iload_n rfl rfl rfl ?_
            refine q_iald rfl rfl (by decide) (FW_54 S hW) (by decide) (q_tn (z := 0) rfl ?_)
            refine q_iast rfl rfl (by decide) rfl (by decide) ?_
            refine q_icc1 (z := 3) rfl rfl rfl rfl rfl ?_
            refine q_goto rfl ?_
            refine q_iload_n rfl rfl rfl ?_
            refine q_bipush rfl rfl ?_
            refine q_icge rfl rfl (fun c253 => absurd c253 (by decide)) (fun c253 => ?_)
            refine q_aload_n rfl rfl rfl ?_
            refine q_getf rfl rfl (by decide) rfl rfl ?_
            refine q_iload_n rfl rfl rfl ?_
            refine q_aload_n rfl rfl rfl ?_
            refine q_getf rfl rfl (by decide) rfl rfl ?_
            refine q_iload_n rfl rfl rfl ?_
            refine q_iald rfl rfl (by decide) (FW_54 S hW) (by decide) (q_tn (z := 0) rfl ?_)
            refine q_iast rfl rfl (by decide) rfl (by decide) ?_
            refine q_icc1 (z := 4) rfl rfl rfl rfl rfl ?_
            refine q_goto rfl ?_
            refine q_iload_n rfl rfl rfl ?_
            refine q_bipush rfl rfl ?_
            refine q_icge rfl rfl (fun c254 => absurd c254 (by decide)) (fun c254 => ?_)
            refine q_aload_n rfl rfl rfl ?_
            refine q_getf rfl rfl (by decide) rfl rfl ?_
            refine q_iload_n rfl rfl rfl ?_
            refine q_aload_n rfl rfl rfl ?_
            refine q_getf rfl rfl (by decide) rfl rfl ?_
            refine q_iload_n rfl rfl rfl ?_
            refine q_iald rfl rfl (by decide) (FW_54 S hW) (by decide) (q_tn (z := 0) rfl ?_)
            refine q_iast rfl rfl (by decide) rfl (by decide) ?_
            refine q_icc1 (z := 5) rfl rfl rfl rfl rfl ?_
            refine q_goto rfl ?_
            refine q_iload_n rfl rfl rfl ?_
            refine q_bipush rfl rfl ?_
            refine q_icge rfl rfl (fun c255 => absurd c255 (by decide)) (fun c255 => ?_)
            refine q_aload_n rfl rfl rfl ?_
            refine q_getf rfl rfl (by decide) rfl rfl ?_
            refine q_iload_n rfl rfl rfl ?_
            refine q_aload_n rfl rfl rfl ?_
            refine q_getf rfl rfl (by decide) rfl rfl ?_
            refine q_iload_n rfl rfl rfl ?_
            refine q_iald rfl rfl (by decide) (FW_54 S hW) (by decide) (q_tn (z := 0) rfl ?_)
            refine q_iast rfl rfl (by decide) rfl (by decide) ?_
            refine q_icc1 (z := 6) rfl rfl rfl rfl rfl ?_
            refine q_goto rfl ?_
            refine q_iload_n rfl rfl rfl ?_
            refine q_bipush rfl rfl ?_
            refine q_icge rfl rfl (fun c256 => absurd c256 (by decide)) (fun c256 => ?_)
            refine q_aload_n rfl rfl rfl ?_
            refine q_getf rfl rfl (by decide) rfl rfl ?_
            refine q_iload_n rfl rfl rfl ?_
            refine q_aload_n rfl rfl rfl ?_
            refine q_getf rfl rfl (by decide) rfl rfl ?_
            refine q_iload_n rfl rfl rfl ?_
            refine q_iald rfl rfl (by decide) (FW_54 S hW) (by decide) (q_tn (z := 0) rfl ?_)
            refine q_iast rfl rfl (by decide) rfl (by decide) ?_
            refine q_icc1 (z := 7) rfl rfl rfl rfl rfl ?_
            refine q_goto rfl ?_
            refine q_iload_n rfl rfl rfl ?_
            refine q_bipush rfl rfl ?_
            refine q_icge rfl rfl (fun c257 => absurd c257 (by decide)) (fun c257 => ?_)
            refine q_aload_n rfl rfl rfl ?_
            refine q_getf rfl rfl (by decide) rfl rfl ?_
            refine q_iload_n rfl rfl rfl ?_
            refine q_aload_n rfl rfl rfl ?_
            refine q_getf rfl rfl (by decide) rfl rfl ?_
            refine q_iload_n rfl rfl rfl ?_
            refine q_iald rfl rfl (by decide) (FW_54 S hW) (by decide) (q_tn (z := 0) rfl ?_)
            refine q_iast rfl rfl (by decide) rfl (by decide) ?_
            refine q_icc1 (z := 8) rfl rfl rfl rfl rfl ?_
            refine q_goto rfl ?_
            refine q_iload_n rfl rfl rfl ?_
            refine q_bipush rfl rfl ?_
            refine q_icge rfl rfl (fun c258 => absurd c258 (by decide)) (fun c258 => ?_)
            refine q_aload_n rfl rfl rfl ?_
            refine q_getf rfl rfl (by decide) rfl rfl ?_
            refine q_iload_n rfl rfl rfl ?_
            refine q_aload_n rfl rfl rfl ?_
            refine q_getf rfl rfl (by decide) rfl rfl ?_
            refine q_iload_n rfl rfl rfl ?_
            refine q_iald rfl rfl (by decide) (FW_54 S hW) (by decide) (q_tn (z := 0) rfl ?_)
            refine q_iast rfl rfl (by decide) rfl (by decide) ?_
            refine q_icc1 (z := 9) rfl rfl rfl rfl rfl ?_
            refine q_goto rfl ?_
            refine q_iload_n rfl rfl rfl ?_
            refine q_bipush rfl rfl ?_
            refine q_icge rfl rfl (fun c259 => absurd c259 (by decide)) (fun c259 => ?_)
            refine q_aload_n rfl rfl rfl ?_
            refine q_getf rfl rfl (by decide) rfl rfl ?_
            refine q_iload_n rfl rfl rfl ?_
            refine q_aload_n rfl rfl rfl ?_
            refine q_getf rfl rfl (by decide) rfl rfl ?_
            refine q_iload_n rfl rfl rfl ?_
            refine q_iald rfl rfl (by decide) (FW_54 S hW) (by decide) (q_tn (z := 0) rfl ?_)
            refine q_iast rfl rfl (by decide) rfl (by decide) ?_
            refine q_icc1 (z := 10) rfl rfl rfl rfl rfl ?_
            refine q_goto rfl ?_
            refine q_iload_n rfl rfl rfl ?_
            refine q_bipush rfl rfl ?_
            refine q_icge rfl rfl (fun c260 => absurd c260 (by decide)) (fun c260 => ?_)
            refine q_aload_n rfl rfl rfl ?_
            refine q_getf rfl rfl (by decide) rfl rfl ?_
            refine q_iload_n rfl rfl rfl ?_
            refine q_aload_n rfl rfl rfl ?_
            refine q_getf rfl rfl (by decide) rfl rfl ?_
            refine q_iload_n rfl rfl rfl ?_
            refine q_iald rfl rfl (by decide) (FW_54 S hW) (by decide) (q_tn (z := 0) rfl ?_)
            refine q_iast rfl rfl (by decide) rfl (by decide) ?_
            refine q_icc1 (z := 11) rfl rfl rfl rfl rfl ?_
            refine q_goto rfl ?_
            refine q_iload_n rfl rfl rfl ?_
            refine q_bipush rfl rfl ?_
            refine q_icge rfl rfl (fun c261 => absurd c261 (by decide)) (fun c261 => ?_)
            refine q_aload_n rfl rfl rfl ?_
            refine q_getf rfl rfl (by decide) rfl rfl ?_
            refine q_iload_n rfl rfl rfl ?_
            refine q_aload_n rfl rfl rfl ?_
            refine q_getf rfl rfl (by decide) rfl rfl ?_
            refine q_iload_n rfl rfl rfl ?_
            refine q_iald rfl rfl (by decide) (FW_54 S hW) (by decide) (q_tn (z := 0) rfl ?_)
            refine q_iast rfl rfl (by decide) rfl (by decide) ?_
            refine q_icc1 (z := 12) rfl rfl rfl rfl rfl ?_
            refine q_goto rfl ?_
            refine q_iload_n rfl rfl rfl ?_
            refine q_bipush rfl rfl ?_
            refine q_icge rfl rfl (fun c262 => absurd c262 (by decide)) (fun c262 => ?_)
            refine q_aload_n rfl rfl rfl ?_
            refine q_getf rfl rfl (by decide) rfl rfl ?_
            refine q_iload_n rfl rfl rfl ?_
            refine q_aload_n rfl rfl rfl ?_
            refine q_getf rfl rfl (by decide) rfl rfl ?_
            refine q_iload_n rfl rfl rfl ?_
            refine q_iald rfl rfl (by decide) (FW_54 S hW) (by decide) (q_tn (z := 0) rfl ?_)
            refine q_iast rfl rfl (by decide) rfl (by decide) ?_
            refine q_icc1 (z := 13) rfl rfl rfl rfl rfl ?_
            refine q_goto rfl ?_
            refine q_iload_n rfl rfl rfl ?_
            refine q_bipush rfl rfl ?_
            refine q_icge rfl rfl (fun c263 => absurd c263 (by decide)) (fun c263 => ?_)
            refine q_aload_n rfl rfl rfl ?_
            refine q_getf rfl rfl (by decide) rfl rfl ?_
            refine q_iload_n rfl rfl rfl ?_
            refine q_aload_n rfl rfl rfl ?_
            refine q_getf rfl rfl (by decide) rfl rfl ?_
            refine q_iload_n rfl rfl rfl ?_
            refine q_iald rfl rfl (by decide) (FW_54 S hW) (by decide) (q_tn (z := 0) rfl ?_)
            refine q_iast rfl rfl (by decide) rfl (by decide) ?_
            refine q_icc1 (z := 14) rfl rfl rfl rfl rfl ?_
            refine q_goto rfl ?_
            refine q_iload_n rfl rfl rfl ?_
            refine q_bipush rfl rfl ?_
            refine q_icge rfl rfl (fun c264 => absurd c264 (by decide)) (fun c264 => ?_)
            refine q_aload_n rfl rfl rfl ?_
            refine q_getf rfl rfl (by decide) rfl rfl ?_
            refine q_iload_n rfl rfl rfl ?_
            refine q_aload_n rfl rfl rfl ?_
            refine q_getf rfl rfl (by decide) rfl rfl ?_
            refine q_iload_n rfl rfl rfl ?_
            refine q_iald rfl rfl (by decide) (FW_54 S hW) (by decide) (q_tn (z := 0) rfl ?_)
            refine q_iast rfl rfl (by decide) rfl (by decide) ?_
            refine q_icc1 (z := 15) rfl rfl rfl rfl rfl ?_
            refine q_goto rfl ?_
            refine q_iload_n rfl rfl rfl ?_
            refine q_bipush rfl rfl ?_
            refine q_icge rfl rfl (fun c265 => absurd c265 (by decide)) (fun c265 => ?_)
            refine q_aload_n rfl rfl rfl ?_
            refine q_getf rfl rfl (by decide) rfl rfl ?_
            refine q_iload_n rfl rfl rfl ?_
            refine q_aload_n rfl rfl rfl ?_
            refine q_getf rfl rfl (by decide) rfl rfl ?_
            refine q_iload_n rfl rfl rfl ?_
            refine q_iald rfl rfl (by decide) (FW_54 S hW) (by decide) (q_tn (z := 0) rfl ?_)
            refine q_iast rfl rfl (by decide) rfl (by decide) ?_
            refine q_icc1 (z := 16) rfl rfl rfl rfl rfl ?_
            refine q_goto rfl ?_
            refine q_iload_n rfl rfl rfl ?_
            refine q_bipush rfl rfl ?_
            refine q_icge rfl rfl (fun c266 => absurd c266 (by decide)) (fun c266 => ?_)
            refine q_aload_n rfl rfl rfl ?_
            refine q_getf rfl rfl (by decide) rfl rfl ?_
            refine q_iload_n rfl rfl rfl ?_
            refine q_aload_n rfl rfl rfl ?_
            refine q_getf rfl rfl (by decide) rfl rfl ?_
            refine q_iload_n rfl rfl rfl ?_
            refine q_iald rfl rfl (by decide) (FW_54 S hW) (by decide) (q_tn (z := 0) rfl ?_)
            refine q_iast rfl rfl (by decide) rfl (by decide) ?_
            refine q_icc1 (z := 17) rfl rfl rfl rfl rfl ?_
            refine q_goto rfl ?_
            refine q_iload_n rfl rfl rfl ?_
            refine q_bipush rfl rfl ?_
            refine q_icge rfl rfl (fun c267 => absurd c267 (by decide)) (fun c267 => ?_)
            refine q_aload_n rfl rfl rfl ?_
            refine q_getf rfl rfl (by decide) rfl rfl ?_
            refine q_iload_n rfl rfl rfl ?_
            refine q_aload_n rfl rfl rfl ?_
            refine q_getf rfl rfl (by decide) rfl rfl ?_
            refine q_iload_n rfl rfl rfl ?_
            refine q_iald rfl rfl (by decide) (FW_54 S hW) (by decide) (q_tn (z := 0) rfl ?_)
            refine q_iast rfl rfl (by decide) rfl (by decide) ?_
            refine q_icc1 (z := 18) rfl rfl rfl rfl rfl ?_
            refine q_goto rfl ?_
            refine q_iload_n rfl rfl rfl ?_
            refine q_bipush rfl rfl ?_
            refine q_icge rfl rfl (fun c268 => absurd c268 (by decide)) (fun c268 => ?_)
            refine q_aload_n rfl rfl rfl ?_
            refine q_getf rfl rfl (by decide) rfl rfl ?_
            refine q_iload_n rfl rfl rfl ?_
            refine q_aload_n rfl rfl rfl ?_
            refine q_getf rfl rfl (by decide) rfl rfl ?_
            refine q_iload_n rfl rfl rfl ?_
            refine q_iald rfl rfl (by decide) (FW_54 S hW) (by decide) (q_tn (z := 0) rfl ?_)
            refine q_iast rfl rfl (by decide) rfl (by decide) ?_
            refine q_icc1 (z := 19) rfl rfl rfl rfl rfl ?_
            refine q_goto rfl ?_
            refine q_iload_n rfl rfl rfl ?_
            refine q_bipush rfl rfl ?_
            refine q_icge rfl rfl (fun c269 => absurd c269 (by decide)) (fun c269 => ?_)
            refine q_aload_n rfl rfl rfl ?_
            refine q_getf rfl rfl (by decide) rfl rfl ?_
            refine q_iload_n rfl rfl rfl ?_
            refine q_aload_n rfl rfl rfl ?_
            refine q_getf rfl rfl (by decide) rfl rfl ?_
            refine q_iload_n rfl rfl rfl ?_
            refine q_iald rfl rfl (by decide) (FW_54 S hW) (by decide) (q_tn (z := 0) rfl ?_)
            refine q_iast rfl rfl (by decide) rfl (by decide) ?_
            refine q_icc1 (z := 20) rfl rfl rfl rfl rfl ?_
            refine q_goto rfl ?_
            refine q_iload_n rfl rfl rfl ?_
            refine q_bipush rfl rfl ?_
            refine q_icge rfl rfl (fun c270 => ?_) (fun c270 => absurd (by decide) c270)
            refine q_ret rfl rfl ?_
            refine ⟨rfl, ?_⟩
            refine q_iload_n rfl rfl rfl ?_
            refine q_switch (q := 159) rfl rfl ?_
            refine q_aload_n rfl rfl rfl ?_
            refine q_getf rfl rfl (by decide) rfl rfl ?_
            refine q_bipush rfl rfl ?_
            refine q_iload_n rfl rfl rfl ?_
            refine q_iadd rfl rfl (q_tn (z := 18) rfl ?_)
            refine q_iald rfl rfl (by decide) (FW_54 S hW) (by decide) (q_tn (z := 0) rfl ?_)
            refine q_ifne rfl rfl (fun c271 => ?_) (fun c271 => absurd (by decide) c271)
            refine q_bipush rfl rfl ?_
            refine q_goto rfl ?_
            refine q_iret rfl rfl trivial ?_
            refine ⟨_, rfl, ?_⟩
            refine q_iceq rfl rfl (fun c272 => ?_) (fun c272 => absurd (by decide) c272)
            refine q_icc4 (z := 6) rfl rfl rfl rfl rfl ?_
            refine q_goto rfl ?_
            refine q_iload rfl rfl rfl ?_
            refine q_aload_nF rfl rfl rfl ?_
            refine q_alenX (x := 6) rfl rfl rfl ?_
            refine q_bipush rfl rfl ?_
            refine q_isub rfl rfl (q_tn (z := 0) rfl ?_)
            refine q_icgt rfl rfl (fun c273 => ?_) (fun c273 => absurd (by decide) c273)
            refine q_iconst rfl rfl ?_
            refine q_iret rfl rfl rfl ?_
            exact hK _ _
    · refine q_iload_n rfl rfl rfl ?_
      refine q_iconst rfl rfl ?_
      refine q_nS2 rfl rfl (Or.inl rfl) rfl rfl ⟨rfl, rfl⟩ rfl ?_
      change PQ _ _ _ mm_X11_within 0 [.int x1, .int 5] [] _ _ 0 0 _
      refine q_iload_n rfl rfl rfl ?_
      refine q_iflt rfl rfl (fun c274 => ?_) (fun c274 => ?_)
      · refine q_iconst rfl rfl ?_
        refine q_iret rfl rfl rfl ?_
        refine ⟨_, rfl, ?_⟩
        refine q_ifeq rfl rfl (fun c275 => ?_) (fun c275 => absurd (by decide) c275)
        refine q_iconst rfl rfl ?_
        refine q_iret rfl rfl trivial ?_
        refine ⟨_, rfl, ?_⟩
        refine q_aload_n rfl rfl rfl ?_
        refine q_aload_nF rfl rfl rfl ?_
        refine q_iload rfl rfl rfl ?_
        refine q_iconst rfl rfl ?_
        refine q_iadd rfl rfl (q_tn (z := 1) rfl ?_)
        refine q_ialdX (x := x1) rfl rfl rfl hx1 ?_
        refine q_aload_nF rfl rfl rfl ?_
        refine q_iload rfl rfl rfl ?_
        refine q_iconst rfl rfl ?_
        refine q_iadd rfl rfl (q_tn (z := 2) rfl ?_)
        refine q_ialdX (x := x2) rfl rfl rfl hx2 ?_
        refine q_nV2 rfl rfl (Or.inl rfl) rfl rfl rfl (by decide) (FW_46 S hW) ⟨rfl, rfl⟩ rfl ?_
        change PQ _ _ _ mm_X12_see 0 [.ref 46, .int x1, .int x2] [] _ _ 0 0 _
        refine q_aload_n rfl rfl rfl ?_
        refine q_iload_n rfl rfl rfl ?_
        refine q_iconst rfl rfl ?_
        refine q_bipush rfl rfl ?_
        refine q_nV3 rfl rfl (Or.inl rfl) rfl rfl rfl (by decide) (FW_46 S hW) ⟨rfl, rfl⟩ rfl ?_
        change PQ _ _ _ mm_X12_in 0 [.ref 46, .int x1, .int 0, .int 6] [] _ _ 0 0 _
        refine q_iload_n rfl rfl rfl ?_
        refine q_iload_n rfl rfl rfl ?_
        refine q_iclt rfl rfl (fun c276 => ?_) (fun c276 => absurd (i_lt_t (i_ltle c274 (B := (-1)) rfl) rfl) c276)
        refine q_iconst rfl rfl ?_
        refine q_iret rfl rfl rfl ?_
        refine ⟨_, rfl, ?_⟩
        refine q_ifeq rfl rfl (fun c277 => ?_) (fun c277 => absurd (by decide) c277)
        refine q_iconst rfl rfl ?_
        refine q_iret rfl rfl trivial ?_
        refine ⟨_, rfl, ?_⟩
        refine q_iceq rfl rfl (fun c278 => ?_) (fun c278 => absurd (by decide) c278)
        refine q_icc4 (z := 6) rfl rfl rfl rfl rfl ?_
        refine q_goto rfl ?_
        refine q_iload rfl rfl rfl ?_
        refine q_aload_nF rfl rfl rfl ?_
        refine q_alenX (x := 6) rfl rfl rfl ?_
        refine q_bipush rfl rfl ?_
        refine q_isub rfl rfl (q_tn (z := 0) rfl ?_)
        refine q_icgt rfl rfl (fun c279 => ?_) (fun c279 => absurd (by decide) c279)
        refine q_iconst rfl rfl ?_
        refine q_iret rfl rfl rfl ?_
        exact hK _ _
      · refine q_iload_n rfl rfl rfl ?_
        refine q_iload_n rfl rfl rfl ?_
        refine q_icge rfl rfl (fun c280 => ?_) (fun c280 => ?_)
        · refine q_iconst rfl rfl ?_
          refine q_iret rfl rfl rfl ?_
          refine ⟨_, rfl, ?_⟩
          refine q_ifeq rfl rfl (fun c281 => ?_) (fun c281 => absurd (by decide) c281)
          refine q_iconst rfl rfl ?_
          refine q_iret rfl rfl trivial ?_
          refine ⟨_, rfl, ?_⟩
          refine q_aload_n rfl rfl rfl ?_
          refine q_aload_nF rfl rfl rfl ?_
          refine q_iload rfl rfl rfl ?_
          refine q_iconst rfl rfl ?_
          refine q_iadd rfl rfl (q_tn (z := 1) rfl ?_)
          refine q_ialdX (x := x1) rfl rfl rfl hx1 ?_
          refine q_aload_nF rfl rfl rfl ?_
          refine q_iload rfl rfl rfl ?_
          refine q_iconst rfl rfl ?_
          refine q_iadd rfl rfl (q_tn (z := 2) rfl ?_)
          refine q_ialdX (x := x2) rfl rfl rfl hx2 ?_
          refine q_nV2 rfl rfl (Or.inl rfl) rfl rfl rfl (by decide) (FW_46 S hW) ⟨rfl, rfl⟩ rfl ?_
          change PQ _ _ _ mm_X12_see 0 [.ref 46, .int x1, .int x2] [] _ _ 0 0 _
          refine q_aload_n rfl rfl rfl ?_
          refine q_iload_n rfl rfl rfl ?_
          refine q_iconst rfl rfl ?_
          refine q_bipush rfl rfl ?_
          refine q_nV3 rfl rfl (Or.inl rfl) rfl rfl rfl (by decide) (FW_46 S hW) ⟨rfl, rfl⟩ rfl ?_
          change PQ _ _ _ mm_X12_in 0 [.ref 46, .int x1, .int 0, .int 6] [] _ _ 0 0 _
          refine q_iload_n rfl rfl rfl ?_
          refine q_iload_n rfl rfl rfl ?_
          refine q_iclt rfl rfl (fun c282 => absurd c282 (i_lt_f (i_ltge (i_nle (fun q => c150 (Int32.le_antisymm q (i_ltge (i_nle (fun q => c1 (Int32.le_antisymm q c280))) (B := 6) rfl)))) (B := 7) rfl) rfl)) (fun c282 => ?_)
          refine q_iload_n rfl rfl rfl ?_
          refine q_iload_n rfl rfl rfl ?_
          refine q_icgt rfl rfl (fun c283 => ?_) (fun c283 => absurd (i_gt_t (i_ltge (i_nle (fun q => c150 (Int32.le_antisymm q (i_ltge (i_nle (fun q => c1 (Int32.le_antisymm q c280))) (B := 6) rfl)))) (B := 7) rfl) rfl) c283)
          refine q_iconst rfl rfl ?_
          refine q_iret rfl rfl rfl ?_
          refine ⟨_, rfl, ?_⟩
          refine q_ifeq rfl rfl (fun c284 => ?_) (fun c284 => absurd (by decide) c284)
          refine q_iconst rfl rfl ?_
          refine q_iret rfl rfl trivial ?_
          refine ⟨_, rfl, ?_⟩
          refine q_iceq rfl rfl (fun c285 => ?_) (fun c285 => absurd (by decide) c285)
          refine q_icc4 (z := 6) rfl rfl rfl rfl rfl ?_
          refine q_goto rfl ?_
          refine q_iload rfl rfl rfl ?_
          refine q_aload_nF rfl rfl rfl ?_
          refine q_alenX (x := 6) rfl rfl rfl ?_
          refine q_bipush rfl rfl ?_
          refine q_isub rfl rfl (q_tn (z := 0) rfl ?_)
          refine q_icgt rfl rfl (fun c286 => ?_) (fun c286 => absurd (by decide) c286)
          refine q_iconst rfl rfl ?_
          refine q_iret rfl rfl rfl ?_
          exact hK _ _
        · refine q_iconst rfl rfl ?_
          refine q_goto rfl ?_
          refine q_iret rfl rfl rfl ?_
          refine ⟨_, rfl, ?_⟩
          refine q_ifeq rfl rfl (fun c287 => absurd c287 (by decide)) (fun c287 => ?_)
          refine q_aload_n rfl rfl rfl ?_
          refine q_getf rfl rfl (by decide) (FW_0 S hW) rfl ?_
          refine q_iload_n rfl rfl rfl ?_
          refine q_nV1 rfl rfl (Or.inl rfl) rfl rfl rfl (by decide) (FW_1 S hW) ⟨rfl, rfl⟩ rfl ?_
          change PQ _ _ _ mm_X8_hasHand 0 [.ref 1, .int x2] [] _ _ 0 0 _
          refine q_iload_n rfl rfl rfl ?_
          refine q_iflt rfl rfl (fun c288 => ?_) (fun c288 => ?_)
          · refine q_iconst rfl rfl ?_
            refine q_iret rfl rfl rfl ?_
            refine ⟨_, rfl, ?_⟩
            refine q_ifne rfl rfl (fun c289 => ?_) (fun c289 => absurd (by decide) c289)
            refine q_iconst rfl rfl ?_
            refine q_iret rfl rfl trivial ?_
            refine ⟨_, rfl, ?_⟩
            refine q_aload_n rfl rfl rfl ?_
            refine q_aload_nF rfl rfl rfl ?_
            refine q_iload rfl rfl rfl ?_
            refine q_iconst rfl rfl ?_
            refine q_iadd rfl rfl (q_tn (z := 1) rfl ?_)
            refine q_ialdX (x := x1) rfl rfl rfl hx1 ?_
            refine q_aload_nF rfl rfl rfl ?_
            refine q_iload rfl rfl rfl ?_
            refine q_iconst rfl rfl ?_
            refine q_iadd rfl rfl (q_tn (z := 2) rfl ?_)
            refine q_ialdX (x := x2) rfl rfl rfl hx2 ?_
            refine q_nV2 rfl rfl (Or.inl rfl) rfl rfl rfl (by decide) (FW_46 S hW) ⟨rfl, rfl⟩ rfl ?_
            change PQ _ _ _ mm_X12_see 0 [.ref 46, .int x1, .int x2] [] _ _ 0 0 _
            refine q_aload_n rfl rfl rfl ?_
            refine q_iload_n rfl rfl rfl ?_
            refine q_iconst rfl rfl ?_
            refine q_bipush rfl rfl ?_
            refine q_nV3 rfl rfl (Or.inl rfl) rfl rfl rfl (by decide) (FW_46 S hW) ⟨rfl, rfl⟩ rfl ?_
            change PQ _ _ _ mm_X12_in 0 [.ref 46, .int x1, .int 0, .int 6] [] _ _ 0 0 _
            refine q_iload_n rfl rfl rfl ?_
            refine q_iload_n rfl rfl rfl ?_
            refine q_iclt rfl rfl (fun c290 => absurd c290 (i_lt_f (i_nlt c274) rfl)) (fun c290 => ?_)
            refine q_iload_n rfl rfl rfl ?_
            refine q_iload_n rfl rfl rfl ?_
            refine q_icgt rfl rfl (fun c291 => absurd c291 (i_gt_f (i_ltle (i_nle c280) (B := 4) rfl) rfl)) (fun c291 => ?_)
            refine q_iconst rfl rfl ?_
            refine q_goto rfl ?_
            refine q_iret rfl rfl rfl ?_
            refine ⟨_, rfl, ?_⟩
            refine q_ifeq rfl rfl (fun c292 => absurd c292 (by decide)) (fun c292 => ?_)
            refine q_iload_n rfl rfl rfl ?_
            refine q_iconst rfl rfl ?_
            refine q_icge rfl rfl (fun c293 => absurd c293 (i_ge_f (i_ltle (i_nle c280) (B := 4) rfl) rfl)) (fun c293 => ?_)
            refine q_aload_n rfl rfl rfl ?_
            refine q_iload_n rfl rfl rfl ?_
            refine q_nV1 rfl rfl (Or.inl rfl) rfl rfl rfl (by decide) (FW_46 S hW) ⟨rfl, rfl⟩ rfl ?_
            change PQ _ _ _ mm_X12_isHand 0 [.ref 46, .int x2] [] _ _ 0 0 _
            refine q_aload_n rfl rfl rfl ?_
            refine q_iload_n rfl rfl rfl ?_
            refine q_iconst rfl rfl ?_
            refine q_aload_n rfl rfl rfl ?_
            refine q_getf rfl rfl (by decide) (FW_46 S hW) rfl ?_
            refine q_iconst rfl rfl ?_
            refine q_isub rfl rfl (q_tn (z := 0) rfl ?_)
            refine q_nV3 rfl rfl (Or.inl rfl) rfl rfl rfl (by decide) (FW_46 S hW) ⟨rfl, rfl⟩ rfl ?_
            change PQ _ _ _ mm_X12_in 0 [.ref 46, .int x2, .int 0, .int 0] [] _ _ 0 0 _
            refine q_iload_n rfl rfl rfl ?_
            refine q_iload_n rfl rfl rfl ?_
            refine q_iclt rfl rfl (fun c294 => ?_) (fun c294 => absurd (i_lt_t (i_ltle c288 (B := (-1)) rfl) rfl) c294)
            refine q_iconst rfl rfl ?_
            refine q_iret rfl rfl rfl ?_
            refine ⟨_, rfl, ?_⟩
            refine q_iret rfl rfl rfl ?_
            refine ⟨_, rfl, ?_⟩
            refine q_ifne rfl rfl (fun c295 => ?_) (fun c295 => absurd (by decide) c295)
            refine q_goto rfl ?_
            refine q_iconst rfl rfl ?_
            refine q_iret rfl rfl trivial ?_
            refine ⟨_, rfl, ?_⟩
            refine q_iceq rfl rfl (fun c296 => ?_) (fun c296 => absurd (by decide) c296)
            refine q_icc4 (z := 6) rfl rfl rfl rfl rfl ?_
            refine q_goto rfl ?_
            refine q_iload rfl rfl rfl ?_
            refine q_aload_nF rfl rfl rfl ?_
            refine q_alenX (x := 6) rfl rfl rfl ?_
            refine q_bipush rfl rfl ?_
            refine q_isub rfl rfl (q_tn (z := 0) rfl ?_)
            refine q_icgt rfl rfl (fun c297 => ?_) (fun c297 => absurd (by decide) c297)
            refine q_iconst rfl rfl ?_
            refine q_iret rfl rfl rfl ?_
            exact hK _ _
          · refine q_iload_n rfl rfl rfl ?_
            refine q_aload_n rfl rfl rfl ?_
            refine q_getf rfl rfl (by decide) (FW_1 S hW) rfl ?_
            refine q_icge rfl rfl (fun c298 => ?_) (fun c298 => ?_)
            · refine q_iconst rfl rfl ?_
              refine q_iret rfl rfl rfl ?_
              refine ⟨_, rfl, ?_⟩
              refine q_ifne rfl rfl (fun c299 => ?_) (fun c299 => absurd (by decide) c299)
              refine q_iconst rfl rfl ?_
              refine q_iret rfl rfl trivial ?_
              refine ⟨_, rfl, ?_⟩
              refine q_aload_n rfl rfl rfl ?_
              refine q_aload_nF rfl rfl rfl ?_
              refine q_iload rfl rfl rfl ?_
              refine q_iconst rfl rfl ?_
              refine q_iadd rfl rfl (q_tn (z := 1) rfl ?_)
              refine q_ialdX (x := x1) rfl rfl rfl hx1 ?_
              refine q_aload_nF rfl rfl rfl ?_
              refine q_iload rfl rfl rfl ?_
              refine q_iconst rfl rfl ?_
              refine q_iadd rfl rfl (q_tn (z := 2) rfl ?_)
              refine q_ialdX (x := x2) rfl rfl rfl hx2 ?_
              refine q_nV2 rfl rfl (Or.inl rfl) rfl rfl rfl (by decide) (FW_46 S hW) ⟨rfl, rfl⟩ rfl ?_
              change PQ _ _ _ mm_X12_see 0 [.ref 46, .int x1, .int x2] [] _ _ 0 0 _
              refine q_aload_n rfl rfl rfl ?_
              refine q_iload_n rfl rfl rfl ?_
              refine q_iconst rfl rfl ?_
              refine q_bipush rfl rfl ?_
              refine q_nV3 rfl rfl (Or.inl rfl) rfl rfl rfl (by decide) (FW_46 S hW) ⟨rfl, rfl⟩ rfl ?_
              change PQ _ _ _ mm_X12_in 0 [.ref 46, .int x1, .int 0, .int 6] [] _ _ 0 0 _
              refine q_iload_n rfl rfl rfl ?_
              refine q_iload_n rfl rfl rfl ?_
              refine q_iclt rfl rfl (fun c300 => absurd c300 (i_lt_f (i_nlt c274) rfl)) (fun c300 => ?_)
              refine q_iload_n rfl rfl rfl ?_
              refine q_iload_n rfl rfl rfl ?_
              refine q_icgt rfl rfl (fun c301 => absurd c301 (i_gt_f (i_ltle (i_nle c280) (B := 4) rfl) rfl)) (fun c301 => ?_)
              refine q_iconst rfl rfl ?_
              refine q_goto rfl ?_
              refine q_iret rfl rfl rfl ?_
              refine ⟨_, rfl, ?_⟩
              refine q_ifeq rfl rfl (fun c302 => absurd c302 (by decide)) (fun c302 => ?_)
              refine q_iload_n rfl rfl rfl ?_
              refine q_iconst rfl rfl ?_
              refine q_icge rfl rfl (fun c303 => absurd c303 (i_ge_f (i_ltle (i_nle c280) (B := 4) rfl) rfl)) (fun c303 => ?_)
              refine q_aload_n rfl rfl rfl ?_
              refine q_iload_n rfl rfl rfl ?_
              refine q_nV1 rfl rfl (Or.inl rfl) rfl rfl rfl (by decide) (FW_46 S hW) ⟨rfl, rfl⟩ rfl ?_
              change PQ _ _ _ mm_X12_isHand 0 [.ref 46, .int x2] [] _ _ 0 0 _
              refine q_aload_n rfl rfl rfl ?_
              refine q_iload_n rfl rfl rfl ?_
              refine q_iconst rfl rfl ?_
              refine q_aload_n rfl rfl rfl ?_
              refine q_getf rfl rfl (by decide) (FW_46 S hW) rfl ?_
              refine q_iconst rfl rfl ?_
              refine q_isub rfl rfl (q_tn (z := 0) rfl ?_)
              refine q_nV3 rfl rfl (Or.inl rfl) rfl rfl rfl (by decide) (FW_46 S hW) ⟨rfl, rfl⟩ rfl ?_
              change PQ _ _ _ mm_X12_in 0 [.ref 46, .int x2, .int 0, .int 0] [] _ _ 0 0 _
              refine q_iload_n rfl rfl rfl ?_
              refine q_iload_n rfl rfl rfl ?_
              refine q_iclt rfl rfl (fun c304 => absurd c304 (i_lt_f c298 rfl)) (fun c304 => ?_)
              refine q_iload_n rfl rfl rfl ?_
              refine q_iload_n rfl rfl rfl ?_
              refine q_icgt rfl rfl (fun c305 => ?_) (fun c305 => absurd (i_gt_t c298 rfl) c305)
              refine q_iconst rfl rfl ?_
              refine q_iret rfl rfl rfl ?_
              refine ⟨_, rfl, ?_⟩
              refine q_iret rfl rfl rfl ?_
              refine ⟨_, rfl, ?_⟩
              refine q_ifne rfl rfl (fun c306 => ?_) (fun c306 => absurd (by decide) c306)
              refine q_goto rfl ?_
              refine q_iconst rfl rfl ?_
              refine q_iret rfl rfl trivial ?_
              refine ⟨_, rfl, ?_⟩
              refine q_iceq rfl rfl (fun c307 => ?_) (fun c307 => absurd (by decide) c307)
              refine q_icc4 (z := 6) rfl rfl rfl rfl rfl ?_
              refine q_goto rfl ?_
              refine q_iload rfl rfl rfl ?_
              refine q_aload_nF rfl rfl rfl ?_
              refine q_alenX (x := 6) rfl rfl rfl ?_
              refine q_bipush rfl rfl ?_
              refine q_isub rfl rfl (q_tn (z := 0) rfl ?_)
              refine q_icgt rfl rfl (fun c308 => ?_) (fun c308 => absurd (by decide) c308)
              refine q_iconst rfl rfl ?_
              refine q_iret rfl rfl rfl ?_
              exact hK _ _
            · have e308 : x2 = 0 := Int32.le_antisymm (i_ltle (i_nle c298) (B := 0) rfl) (i_nlt c288)
              subst e308
              refine q_iconst rfl rfl ?_
              refine q_goto rfl ?_
              refine q_iret rfl rfl rfl ?_
              refine ⟨_, rfl, ?_⟩
              refine q_ifne rfl rfl (fun c309 => absurd c309 (by decide)) (fun c309 => ?_)
              refine q_iload_n rfl rfl rfl ?_
              rcases i_en4 (i_nlt c274) (i_ltle (i_nle c280) (B := 4) rfl) with rfl | rfl | rfl | rfl | rfl
              · refine q_switch (q := 104) rfl rfl ?_
                refine q_aload_n rfl rfl rfl ?_
                refine q_iload_n rfl rfl rfl ?_
                refine q_nV1 rfl rfl (Or.inl rfl) rfl rfl rfl (by decide) (FW_0 S hW) ⟨rfl, rfl⟩ rfl ?_
                change PQ _ _ _ mm_X11_positionSeen 0 [.ref 0, .int 0, pm_un] [] _ _ 0 0 _
                refine q_aload_n rfl rfl rfl ?_
                refine q_getf rfl rfl (by decide) (FW_0 S hW) rfl ?_
                refine q_iload_n rfl rfl rfl ?_
                refine q_nS2 rfl rfl (Or.inl rfl) rfl rfl ⟨rfl, rfl⟩ rfl ?_
                change PQ _ _ _ mm_X0_position 0 [.long 0, pm_un, .int 0] [] _ _ 0 0 _
                refine q_lload_n rfl rfl rfl ?_
                refine q_bipush rfl rfl ?_
                refine q_iload_n rfl rfl rfl ?_
                refine q_imul rfl rfl (q_tn (z := 0) rfl ?_)
                refine q_lushr rfl rfl (q_tnl (z := 0) rfl ?_)
                refine q_l2i rfl rfl (q_tn (z := 0) rfl ?_)
                refine q_bipush rfl rfl ?_
                refine q_iand rfl rfl (q_tn (z := 0) rfl ?_)
                refine q_iret rfl rfl trivial ?_
                refine ⟨_, rfl, ?_⟩
                refine q_ist2n rfl rfl rfl rfl ?_
                refine q_iload_n rfl rfl rfl ?_
                refine q_bipush rfl rfl ?_
                refine q_icne rfl rfl (fun c310 => absurd c310 (by decide)) (fun c310 => ?_)
                refine q_iload_n rfl rfl rfl ?_
                refine q_aload_n rfl rfl rfl ?_
                refine q_getf rfl rfl (by decide) (FW_0 S hW) rfl ?_
                refine q_iload_n rfl rfl rfl ?_
                refine q_nV1 rfl rfl (Or.inl rfl) rfl rfl rfl (by decide) (FW_1 S hW) ⟨rfl, rfl⟩ rfl ?_
                change PQ _ _ _ mm_X8_lengthOf 0 [.ref 1, .int 0] [] _ _ 0 0 _
                refine q_iload_n rfl rfl rfl ?_
                refine q_iflt rfl rfl (fun c311 => absurd c311 (by decide)) (fun c311 => ?_)
                refine q_iload_n rfl rfl rfl ?_
                refine q_aload_n rfl rfl rfl ?_
                refine q_getf rfl rfl (by decide) (FW_1 S hW) rfl ?_
                refine q_icge rfl rfl (fun c312 => absurd c312 (by decide)) (fun c312 => ?_)
                refine q_aload_n rfl rfl rfl ?_
                refine q_getf rfl rfl (by decide) (FW_1 S hW) rfl ?_
                refine q_iload_n rfl rfl rfl ?_
                refine q_iald rfl rfl (by decide) (FW_3 S hW) (by decide) (q_tn (z := 0) rfl ?_)
                refine q_goto rfl ?_
                refine q_iret rfl rfl trivial ?_
                refine ⟨_, rfl, ?_⟩
                refine q_iclt rfl rfl (fun c313 => absurd c313 (by decide)) (fun c313 => ?_)
                refine q_bipush rfl rfl ?_
                refine q_goto rfl ?_
                refine q_iret rfl rfl trivial ?_
                refine ⟨_, rfl, ?_⟩
                refine q_iret rfl rfl trivial ?_
                refine ⟨_, rfl, ?_⟩
                refine q_aload_n rfl rfl rfl ?_
                refine q_aload_nF rfl rfl rfl ?_
                refine q_iload rfl rfl rfl ?_
                refine q_iconst rfl rfl ?_
                refine q_iadd rfl rfl (q_tn (z := 1) rfl ?_)
                refine q_ialdX (x := 0) rfl rfl rfl hx1 ?_
                refine q_aload_nF rfl rfl rfl ?_
                refine q_iload rfl rfl rfl ?_
                refine q_iconst rfl rfl ?_
                refine q_iadd rfl rfl (q_tn (z := 2) rfl ?_)
                refine q_ialdX (x := 0) rfl rfl rfl hx2 ?_
                refine q_nV2 rfl rfl (Or.inl rfl) rfl rfl rfl (by decide) (FW_46 S hW) ⟨rfl, rfl⟩ rfl ?_
                change PQ _ _ _ mm_X12_see 0 [.ref 46, .int 0, .int 0] [] _ _ 0 0 _
                refine q_aload_n rfl rfl rfl ?_
                refine q_iload_n rfl rfl rfl ?_
                refine q_iconst rfl rfl ?_
                refine q_bipush rfl rfl ?_
                refine q_nV3 rfl rfl (Or.inl rfl) rfl rfl rfl (by decide) (FW_46 S hW) ⟨rfl, rfl⟩ rfl ?_
                change PQ _ _ _ mm_X12_in 0 [.ref 46, .int 0, .int 0, .int 6] [] _ _ 0 0 _
                refine q_iload_n rfl rfl rfl ?_
                refine q_iload_n rfl rfl rfl ?_
                refine q_iclt rfl rfl (fun c314 => absurd c314 (by decide)) (fun c314 => ?_)
                refine q_iload_n rfl rfl rfl ?_
                refine q_iload_n rfl rfl rfl ?_
                refine q_icgt rfl rfl (fun c315 => absurd c315 (by decide)) (fun c315 => ?_)
                refine q_iconst rfl rfl ?_
                refine q_goto rfl ?_
                refine q_iret rfl rfl rfl ?_
                refine ⟨_, rfl, ?_⟩
                refine q_ifeq rfl rfl (fun c316 => absurd c316 (by decide)) (fun c316 => ?_)
                refine q_iload_n rfl rfl rfl ?_
                refine q_iconst rfl rfl ?_
                refine q_icge rfl rfl (fun c317 => absurd c317 (by decide)) (fun c317 => ?_)
                refine q_aload_n rfl rfl rfl ?_
                refine q_iload_n rfl rfl rfl ?_
                refine q_nV1 rfl rfl (Or.inl rfl) rfl rfl rfl (by decide) (FW_46 S hW) ⟨rfl, rfl⟩ rfl ?_
                change PQ _ _ _ mm_X12_isHand 0 [.ref 46, .int 0] [] _ _ 0 0 _
                refine q_aload_n rfl rfl rfl ?_
                refine q_iload_n rfl rfl rfl ?_
                refine q_iconst rfl rfl ?_
                refine q_aload_n rfl rfl rfl ?_
                refine q_getf rfl rfl (by decide) (FW_46 S hW) rfl ?_
                refine q_iconst rfl rfl ?_
                refine q_isub rfl rfl (q_tn (z := 0) rfl ?_)
                refine q_nV3 rfl rfl (Or.inl rfl) rfl rfl rfl (by decide) (FW_46 S hW) ⟨rfl, rfl⟩ rfl ?_
                change PQ _ _ _ mm_X12_in 0 [.ref 46, .int 0, .int 0, .int 0] [] _ _ 0 0 _
                refine q_iload_n rfl rfl rfl ?_
                refine q_iload_n rfl rfl rfl ?_
                refine q_iclt rfl rfl (fun c318 => absurd c318 (by decide)) (fun c318 => ?_)
                refine q_iload_n rfl rfl rfl ?_
                refine q_iload_n rfl rfl rfl ?_
                refine q_icgt rfl rfl (fun c319 => absurd c319 (by decide)) (fun c319 => ?_)
                refine q_iconst rfl rfl ?_
                refine q_goto rfl ?_
                refine q_iret rfl rfl rfl ?_
                refine ⟨_, rfl, ?_⟩
                refine q_iret rfl rfl rfl ?_
                refine ⟨_, rfl, ?_⟩
                refine q_ifne rfl rfl (fun c320 => absurd c320 (by decide)) (fun c320 => ?_)
                refine q_aload_n rfl rfl rfl ?_
                refine q_nV0v rfl rfl (Or.inl rfl) rfl rfl rfl (by decide) (FW_46 S hW) ⟨rfl, rfl⟩ rfl ?_
                change PQ _ _ _ mm_X12_stand 0 [.ref 46, pm_un] [] _ _ 0 0 _
                refine q_aload_n rfl rfl rfl ?_
                refine q_iconst rfl rfl ?_
                refine q_putf rfl rfl (by decide) (FW_46 S hW) (by decide) rfl trivial ?_
                refine q_iconst rfl rfl ?_
                refine q_ist1n rfl rfl rfl rfl ?_
                refine q_iload_n rfl rfl rfl ?_
                refine q_bipush rfl rfl ?_
                refine q_icge rfl rfl (fun c321 => absurd c321 (by decide)) (fun c321 => ?_)
                refine q_aload_n rfl rfl rfl ?_
                refine q_getf rfl rfl (by decide) rfl rfl ?_
                refine q_iload_n rfl rfl rfl ?_
                refine q_aload_n rfl rfl rfl ?_
                refine q_getf rfl rfl (by decide) rfl rfl ?_
                refine q_iload_n rfl rfl rfl ?_
                refine q_iald rfl rfl (by decide) (FW_54 S hW) (by decide) (q_tn (z := 10) rfl ?_)
                refine q_iast rfl rfl (by decide) (FW_52 S hW) (by decide) ?_
                refine q_icc1 (z := 1) rfl rfl rfl rfl rfl ?_
                refine q_goto rfl ?_
                refine q_iload_n rfl rfl rfl ?_
                refine q_bipush rfl rfl ?_
                refine q_icge rfl rfl (fun c322 => absurd c322 (by decide)) (fun c322 => ?_)
                refine q_aload_n rfl rfl rfl ?_
                refine q_getf rfl rfl (by decide) rfl rfl ?_
                refine q_iload_n rfl rfl rfl ?_
                refine q_aload_n rfl rfl rfl ?_
                refine q_getf rfl rfl (by decide) rfl rfl ?_
                refine q_iload_n rfl rfl rfl ?_
                refine q_iald rfl rfl (by decide) (FW_54 S hW) (by decide) (q_tn (z := 0) rfl ?_)
                refine q_iast rfl rfl (by decide) rfl (by decide) ?_
                refine q_icc1 (z := 2) rfl rfl rfl rfl rfl ?_
                refine q_goto rfl ?_
                refine q_iload_n rfl rfl rfl ?_
                refine q_bipush rfl rfl ?_
                refine q_icge rfl rfl (fun c323 => absurd c323 (by decide)) (fun c323 => ?_)
                refine q_aload_n rfl rfl rfl ?_
                refine q_getf rfl rfl (by decide) rfl rfl ?_
                refine q_iload_n rfl rfl rfl ?_
                refine q_aload_n rfl rfl rfl ?_
                refine q_getf rfl rfl (by decide) rfl rfl ?_
                refine q_iload_n rfl rfl rfl ?_
                refine q_iald rfl rfl (by decide) (FW_54 S hW) (by decide) (q_tn (z := 0) rfl ?_)
                refine q_iast rfl rfl (by decide) rfl (by decide) ?_
                refine q_icc1 (z := 3) rfl rfl rfl rfl rfl ?_
                refine q_goto rfl ?_
                refine q_iload_n rfl rfl rfl ?_
                refine q_bipush rfl rfl ?_
                refine q_icge rfl rfl (fun c324 => absurd c324 (by decide)) (fun c324 => ?_)
                refine q_aload_n rfl rfl rfl ?_
                refine q_getf rfl rfl (by decide) rfl rfl ?_
                refine q_iload_n rfl rfl rfl ?_
                refine q_aload_n rfl rfl rfl ?_
                refine q_getf rfl rfl (by decide) rfl rfl ?_
                refine q_iload_n rfl rfl rfl ?_
                refine q_iald rfl rfl (by decide) (FW_54 S hW) (by decide) (q_tn (z := 0) rfl ?_)
                refine q_iast rfl rfl (by decide) rfl (by decide) ?_
                refine q_icc1 (z := 4) rfl rfl rfl rfl rfl ?_
                refine q_goto rfl ?_
                refine q_iload_n rfl rfl rfl ?_
                refine q_bipush rfl rfl ?_
                refine q_icge rfl rfl (fun c325 => absurd c325 (by decide)) (fun c325 => ?_)
                refine q_aload_n rfl rfl rfl ?_
                refine q_getf rfl rfl (by decide) rfl rfl ?_
                refine q_iload_n rfl rfl rfl ?_
                refine q_aload_n rfl rfl rfl ?_
                refine q_getf rfl rfl (by decide) rfl rfl ?_
                refine q_iload_n rfl rfl rfl ?_
                refine q_iald rfl rfl (by decide) (FW_54 S hW) (by decide) (q_tn (z := 0) rfl ?_)
                refine q_iast rfl rfl (by decide) rfl (by decide) ?_
                refine q_icc1 (z := 5) rfl rfl rfl rfl rfl ?_
                refine q_goto rfl ?_
                refine q_iload_n rfl rfl rfl ?_
                refine q_bipush rfl rfl ?_
                refine q_icge rfl rfl (fun c326 => absurd c326 (by decide)) (fun c326 => ?_)
                refine q_aload_n rfl rfl rfl ?_
                refine q_getf rfl rfl (by decide) rfl rfl ?_
                refine q_iload_n rfl rfl rfl ?_
                refine q_aload_n rfl rfl rfl ?_
                refine q_getf rfl rfl (by decide) rfl rfl ?_
                refine q_iload_n rfl rfl rfl ?_
                refine q_iald rfl rfl (by decide) (FW_54 S hW) (by decide) (q_tn (z := 0) rfl ?_)
                refine q_iast rfl rfl (by decide) rfl (by decide) ?_
                refine q_icc1 (z := 6) rfl rfl rfl rfl rfl ?_
                refine q_goto rfl ?_
                refine q_iload_n rfl rfl rfl ?_
                refine q_bipush rfl rfl ?_
                refine q_icge rfl rfl (fun c327 => absurd c327 (by decide)) (fun c327 => ?_)
                refine q_aload_n rfl rfl rfl ?_
                refine q_getf rfl rfl (by decide) rfl rfl ?_
                refine q_iload_n rfl rfl rfl ?_
                refine q_aload_n rfl rfl rfl ?_
                refine q_getf rfl rfl (by decide) rfl rfl ?_
                refine q_iload_n rfl rfl rfl ?_
                refine q_iald rfl rfl (by decide) (FW_54 S hW) (by decide) (q_tn (z := 0) rfl ?_)
                refine q_iast rfl rfl (by decide) rfl (by decide) ?_
                refine q_icc1 (z := 7) rfl rfl rfl rfl rfl ?_
                refine q_goto rfl ?_
                refine q_iload_n rfl rfl rfl ?_
                refine q_bipush rfl rfl ?_
                refine q_icge rfl rfl (fun c328 => absurd c328 (by decide)) (fun c328 => ?_)
                refine q_aload_n rfl rfl rfl ?_
                refine q_getf rfl rfl (by decide) rfl rfl ?_
                refine q_iload_n rfl rfl rfl ?_
                refine q_aload_n rfl rfl rfl ?_
                refine q_getf rfl rfl (by decide) rfl rfl ?_
                refine q_iload_n rfl rfl rfl ?_
                refine q_iald rfl rfl (by decide) (FW_54 S hW) (by decide) (q_tn (z := 0) rfl ?_)
                refine q_iast rfl rfl (by decide) rfl (by decide) ?_
                refine q_icc1 (z := 8) rfl rfl rfl rfl rfl ?_
                refine q_goto rfl ?_
                refine q_iload_n rfl rfl rfl ?_
                refine q_bipush rfl rfl ?_
                refine q_icge rfl rfl (fun c329 => absurd c329 (by decide)) (fun c329 => ?_)
                refine q_aload_n rfl rfl rfl ?_
                refine q_getf rfl rfl (by decide) rfl rfl ?_
                refine q_iload_n rfl rfl rfl ?_
                refine q_aload_n rfl rfl rfl ?_
                refine q_getf rfl rfl (by decide) rfl rfl ?_
                refine q_iload_n rfl rfl rfl ?_
                refine q_iald rfl rfl (by decide) (FW_54 S hW) (by decide) (q_tn (z := 0) rfl ?_)
                refine q_iast rfl rfl (by decide) rfl (by decide) ?_
                refine q_icc1 (z := 9) rfl rfl rfl rfl rfl ?_
                refine q_goto rfl ?_
                refine q_iload_n rfl rfl rfl ?_
                refine q_bipush rfl rfl ?_
                refine q_icge rfl rfl (fun c330 => absurd c330 (by decide)) (fun c330 => ?_)
                refine q_aload_n rfl rfl rfl ?_
                refine q_getf rfl rfl (by decide) rfl rfl ?_
                refine q_iload_n rfl rfl rfl ?_
                refine q_aload_n rfl rfl rfl ?_
                refine q_getf rfl rfl (by decide) rfl rfl ?_
                refine q_iload_n rfl rfl rfl ?_
                refine q_iald rfl rfl (by decide) (FW_54 S hW) (by decide) (q_tn (z := 0) rfl ?_)
                refine q_iast rfl rfl (by decide) rfl (by decide) ?_
                refine q_icc1 (z := 10) rfl rfl rfl rfl rfl ?_
                refine q_goto rfl ?_
                refine q_iload_n rfl rfl rfl ?_
                refine q_bipush rfl rfl ?_
                refine q_icge rfl rfl (fun c331 => absurd c331 (by decide)) (fun c331 => ?_)
                refine q_aload_n rfl rfl rfl ?_
                refine q_getf rfl rfl (by decide) rfl rfl ?_
                refine q_iload_n rfl rfl rfl ?_
                refine q_aload_n rfl rfl rfl ?_
                refine q_getf rfl rfl (by decide) rfl rfl ?_
                refine q_iload_n rfl rfl rfl ?_
                refine q_iald rfl rfl (by decide) (FW_54 S hW) (by decide) (q_tn (z := 0) rfl ?_)
                refine q_iast rfl rfl (by decide) rfl (by decide) ?_
                refine q_icc1 (z := 11) rfl rfl rfl rfl rfl ?_
                refine q_goto rfl ?_
                refine q_iload_n rfl rfl rfl ?_
                refine q_bipush rfl rfl ?_
                refine q_icge rfl rfl (fun c332 => absurd c332 (by decide)) (fun c332 => ?_)
                refine q_aload_n rfl rfl rfl ?_
                refine q_getf rfl rfl (by decide) rfl rfl ?_
                refine q_iload_n rfl rfl rfl ?_
                refine q_aload_n rfl rfl rfl ?_
                refine q_getf rfl rfl (by decide) rfl rfl ?_
                refine q_iload_n rfl rfl rfl ?_
                refine q_iald rfl rfl (by decide) (FW_54 S hW) (by decide) (q_tn (z := 0) rfl ?_)
                refine q_iast rfl rfl (by decide) rfl (by decide) ?_
                refine q_icc1 (z := 12) rfl rfl rfl rfl rfl ?_
                refine q_goto rfl ?_
                refine q_iload_n rfl rfl rfl ?_
                refine q_bipush rfl rfl ?_
                refine q_icge rfl rfl (fun c333 => absurd c333 (by decide)) (fun c333 => ?_)
                refine q_aload_n rfl rfl rfl ?_
                refine q_getf rfl rfl (by decide) rfl rfl ?_
                refine q_iload_n rfl rfl rfl ?_
                refine q_aload_n rfl rfl rfl ?_
                refine q_getf rfl rfl (by decide) rfl rfl ?_
                refine q_iload_n rfl rfl rfl ?_
                refine q_iald rfl rfl (by decide) (FW_54 S hW) (by decide) (q_tn (z := 0) rfl ?_)
                refine q_iast rfl rfl (by decide) rfl (by decide) ?_
                refine q_icc1 (z := 13) rfl rfl rfl rfl rfl ?_
                refine q_goto rfl ?_
                refine q_iload_n rfl rfl rfl ?_
                refine q_bipush rfl rfl ?_
                refine q_icge rfl rfl (fun c334 => absurd c334 (by decide)) (fun c334 => ?_)
                refine q_aload_n rfl rfl rfl ?_
                refine q_getf rfl rfl (by decide) rfl rfl ?_
                refine q_iload_n rfl rfl rfl ?_
                refine q_aload_n rfl rfl rfl ?_
                refine q_getf rfl rfl (by decide) rfl rfl ?_
                refine q_iload_n rfl rfl rfl ?_
                refine q_iald rfl rfl (by decide) (FW_54 S hW) (by decide) (q_tn (z := 0) rfl ?_)
                refine q_iast rfl rfl (by decide) rfl (by decide) ?_
                refine q_icc1 (z := 14) rfl rfl rfl rfl rfl ?_
                refine q_goto rfl ?_
                refine q_iload_n rfl rfl rfl ?_
                refine q_bipush rfl rfl ?_
                refine q_icge rfl rfl (fun c335 => absurd c335 (by decide)) (fun c335 => ?_)
                refine q_aload_n rfl rfl rfl ?_
                refine q_getf rfl rfl (by decide) rfl rfl ?_
                refine q_iload_n rfl rfl rfl ?_
                refine q_aload_n rfl rfl rfl ?_
                refine q_getf rfl rfl (by decide) rfl rfl ?_
                refine q_iload_n rfl rfl rfl ?_
                refine q_iald rfl rfl (by decide) (FW_54 S hW) (by decide) (q_tn (z := 0) rfl ?_)
                refine q_iast rfl rfl (by decide) rfl (by decide) ?_
                refine q_icc1 (z := 15) rfl rfl rfl rfl rfl ?_
                refine q_goto rfl ?_
                refine q_iload_n rfl rfl rfl ?_
                refine q_bipush rfl rfl ?_
                refine q_icge rfl rfl (fun c336 => absurd c336 (by decide)) (fun c336 => ?_)
                refine q_aload_n rfl rfl rfl ?_
                refine q_getf rfl rfl (by decide) rfl rfl ?_
                refine q_iload_n rfl rfl rfl ?_
                refine q_aload_n rfl rfl rfl ?_
                refine q_getf rfl rfl (by decide) rfl rfl ?_
                refine q_iload_n rfl rfl rfl ?_
                refine q_iald rfl rfl (by decide) (FW_54 S hW) (by decide) (q_tn (z := 0) rfl ?_)
                refine q_iast rfl rfl (by decide) rfl (by decide) ?_
                refine q_icc1 (z := 16) rfl rfl rfl rfl rfl ?_
                refine q_goto rfl ?_
                refine q_iload_n rfl rfl rfl ?_
                refine q_bipush rfl rfl ?_
                refine q_icge rfl rfl (fun c337 => absurd c337 (by decide)) (fun c337 => ?_)
                refine q_aload_n rfl rfl rfl ?_
                refine q_getf rfl rfl (by decide) rfl rfl ?_
                refine q_iload_n rfl rfl rfl ?_
                refine q_aload_n rfl rfl rfl ?_
                refine q_getf rfl rfl (by decide) rfl rfl ?_
                refine q_iload_n rfl rfl rfl ?_
                refine q_iald rfl rfl (by decide) (FW_54 S hW) (by decide) (q_tn (z := 0) rfl ?_)
                refine q_iast rfl rfl (by decide) rfl (by decide) ?_
                refine q_icc1 (z := 17) rfl rfl rfl rfl rfl ?_
                refine q_goto rfl ?_
                refine q_iload_n rfl rfl rfl ?_
                refine q_bipush rfl rfl ?_
                refine q_icge rfl rfl (fun c338 => absurd c338 (by decide)) (fun c338 => ?_)
                refine q_aload_n rfl rfl rfl ?_
                refine q_getf rfl rfl (by decide) rfl rfl ?_
                refine q_iload_n rfl rfl rfl ?_
                refine q_aload_n rfl rfl rfl ?_
                refine q_getf rfl rfl (by decide) rfl rfl ?_
                refine q_iload_n rfl rfl rfl ?_
                refine q_iald rfl rfl (by decide) (FW_54 S hW) (by decide) (q_tn (z := 0) rfl ?_)
                refine q_iast rfl rfl (by decide) rfl (by decide) ?_
                refine q_icc1 (z := 18) rfl rfl rfl rfl rfl ?_
                refine q_goto rfl ?_
                refine q_iload_n rfl rfl rfl ?_
                refine q_bipush rfl rfl ?_
                refine q_icge rfl rfl (fun c339 => absurd c339 (by decide)) (fun c339 => ?_)
                refine q_aload_n rfl rfl rfl ?_
                refine q_getf rfl rfl (by decide) rfl rfl ?_
                refine q_iload_n rfl rfl rfl ?_
                refine q_aload_n rfl rfl rfl ?_
                refine q_getf rfl rfl (by decide) rfl rfl ?_
                refine q_iload_n rfl rfl rfl ?_
                refine q_iald rfl rfl (by decide) (FW_54 S hW) (by decide) (q_tn (z := 0) rfl ?_)
                refine q_iast rfl rfl (by decide) rfl (by decide) ?_
                refine q_icc1 (z := 19) rfl rfl rfl rfl rfl ?_
                refine q_goto rfl ?_
                refine q_iload_n rfl rfl rfl ?_
                refine q_bipush rfl rfl ?_
                refine q_icge rfl rfl (fun c340 => absurd c340 (by decide)) (fun c340 => ?_)
                refine q_aload_n rfl rfl rfl ?_
                refine q_getf rfl rfl (by decide) rfl rfl ?_
                refine q_iload_n rfl rfl rfl ?_
                refine q_aload_n rfl rfl rfl ?_
                refine q_getf rfl rfl (by decide) rfl rfl ?_
                refine q_iload_n rfl rfl rfl ?_
                refine q_iald rfl rfl (by decide) (FW_54 S hW) (by decide) (q_tn (z := 0) rfl ?_)
                refine q_iast rfl rfl (by decide) rfl (by decide) ?_
                refine q_icc1 (z := 20) rfl rfl rfl rfl rfl ?_
                refine q_goto rfl ?_
                refine q_iload_n rfl rfl rfl ?_
                refine q_bipush rfl rfl ?_
                refine q_icge rfl rfl (fun c341 => ?_) (fun c341 => absurd (by decide) c341)
                refine q_ret rfl rfl ?_
                refine ⟨rfl, ?_⟩
                refine q_iload_n rfl rfl rfl ?_
                refine q_switch (q := 92) rfl rfl ?_
                refine q_aload_n rfl rfl rfl ?_
                refine q_getf rfl rfl (by decide) rfl rfl ?_
                refine q_iconst rfl rfl ?_
                refine q_iload_n rfl rfl rfl ?_
                refine q_imul rfl rfl (q_tn (z := 0) rfl ?_)
                refine q_iald rfl rfl (by decide) (FW_54 S hW) (by decide) (q_tn (z := 10) rfl ?_)
                refine q_iret rfl rfl trivial ?_
                refine ⟨_, rfl, ?_⟩
                refine q_iceq rfl rfl (fun c342 => ?_) (fun c342 => absurd (by decide) c342)
                refine q_icc4 (z := 6) rfl rfl rfl rfl rfl ?_
                refine q_goto rfl ?_
                refine q_iload rfl rfl rfl ?_
                refine q_aload_nF rfl rfl rfl ?_
                refine q_alenX (x := 6) rfl rfl rfl ?_
                refine q_bipush rfl rfl ?_
                refine q_isub rfl rfl (q_tn (z := 0) rfl ?_)
                refine q_icgt rfl rfl (fun c343 => ?_) (fun c343 => absurd (by decide) c343)
                refine q_iconst rfl rfl ?_
                refine q_iret rfl rfl rfl ?_
                exact hK _ _
              · refine q_switch (q := 110) rfl rfl ?_
                refine q_aload_n rfl rfl rfl ?_
                refine q_getf rfl rfl (by decide) (FW_0 S hW) rfl ?_
                refine q_iload_n rfl rfl rfl ?_
                refine q_nS2 rfl rfl (Or.inl rfl) rfl rfl ⟨rfl, rfl⟩ rfl ?_
                change PQ _ _ _ mm_X0_register 0 [.long 0, pm_un, .int 0] [] _ _ 0 0 _
                refine q_lload_n rfl rfl rfl ?_
                refine q_bipush rfl rfl ?_
                refine q_iload_n rfl rfl rfl ?_
                refine q_imul rfl rfl (q_tn (z := 0) rfl ?_)
                refine q_bipush rfl rfl ?_
                refine q_iadd rfl rfl (q_tn (z := 6) rfl ?_)
                refine q_lushr rfl rfl (q_tnl (z := 0) rfl ?_)
                refine q_l2i rfl rfl (q_tn (z := 0) rfl ?_)
                refine q_bipush rfl rfl ?_
                refine q_iand rfl rfl (q_tn (z := 0) rfl ?_)
                refine q_iret rfl rfl trivial ?_
                refine ⟨_, rfl, ?_⟩
                refine q_iret rfl rfl trivial ?_
                refine ⟨_, rfl, ?_⟩
                refine q_aload_n rfl rfl rfl ?_
                refine q_aload_nF rfl rfl rfl ?_
                refine q_iload rfl rfl rfl ?_
                refine q_iconst rfl rfl ?_
                refine q_iadd rfl rfl (q_tn (z := 1) rfl ?_)
                refine q_ialdX (x := 1) rfl rfl rfl hx1 ?_
                refine q_aload_nF rfl rfl rfl ?_
                refine q_iload rfl rfl rfl ?_
                refine q_iconst rfl rfl ?_
                refine q_iadd rfl rfl (q_tn (z := 2) rfl ?_)
                refine q_ialdX (x := 0) rfl rfl rfl hx2 ?_
                refine q_nV2 rfl rfl (Or.inl rfl) rfl rfl rfl (by decide) (FW_46 S hW) ⟨rfl, rfl⟩ rfl ?_
                change PQ _ _ _ mm_X12_see 0 [.ref 46, .int 1, .int 0] [] _ _ 0 0 _
                refine q_aload_n rfl rfl rfl ?_
                refine q_iload_n rfl rfl rfl ?_
                refine q_iconst rfl rfl ?_
                refine q_bipush rfl rfl ?_
                refine q_nV3 rfl rfl (Or.inl rfl) rfl rfl rfl (by decide) (FW_46 S hW) ⟨rfl, rfl⟩ rfl ?_
                change PQ _ _ _ mm_X12_in 0 [.ref 46, .int 1, .int 0, .int 6] [] _ _ 0 0 _
                refine q_iload_n rfl rfl rfl ?_
                refine q_iload_n rfl rfl rfl ?_
                refine q_iclt rfl rfl (fun c344 => absurd c344 (by decide)) (fun c344 => ?_)
                refine q_iload_n rfl rfl rfl ?_
                refine q_iload_n rfl rfl rfl ?_
                refine q_icgt rfl rfl (fun c345 => absurd c345 (by decide)) (fun c345 => ?_)
                refine q_iconst rfl rfl ?_
                refine q_goto rfl ?_
                refine q_iret rfl rfl rfl ?_
                refine ⟨_, rfl, ?_⟩
                refine q_ifeq rfl rfl (fun c346 => absurd c346 (by decide)) (fun c346 => ?_)
                refine q_iload_n rfl rfl rfl ?_
                refine q_iconst rfl rfl ?_
                refine q_icge rfl rfl (fun c347 => absurd c347 (by decide)) (fun c347 => ?_)
                refine q_aload_n rfl rfl rfl ?_
                refine q_iload_n rfl rfl rfl ?_
                refine q_nV1 rfl rfl (Or.inl rfl) rfl rfl rfl (by decide) (FW_46 S hW) ⟨rfl, rfl⟩ rfl ?_
                change PQ _ _ _ mm_X12_isHand 0 [.ref 46, .int 0] [] _ _ 0 0 _
                refine q_aload_n rfl rfl rfl ?_
                refine q_iload_n rfl rfl rfl ?_
                refine q_iconst rfl rfl ?_
                refine q_aload_n rfl rfl rfl ?_
                refine q_getf rfl rfl (by decide) (FW_46 S hW) rfl ?_
                refine q_iconst rfl rfl ?_
                refine q_isub rfl rfl (q_tn (z := 0) rfl ?_)
                refine q_nV3 rfl rfl (Or.inl rfl) rfl rfl rfl (by decide) (FW_46 S hW) ⟨rfl, rfl⟩ rfl ?_
                change PQ _ _ _ mm_X12_in 0 [.ref 46, .int 0, .int 0, .int 0] [] _ _ 0 0 _
                refine q_iload_n rfl rfl rfl ?_
                refine q_iload_n rfl rfl rfl ?_
                refine q_iclt rfl rfl (fun c348 => absurd c348 (by decide)) (fun c348 => ?_)
                refine q_iload_n rfl rfl rfl ?_
                refine q_iload_n rfl rfl rfl ?_
                refine q_icgt rfl rfl (fun c349 => absurd c349 (by decide)) (fun c349 => ?_)
                refine q_iconst rfl rfl ?_
                refine q_goto rfl ?_
                refine q_iret rfl rfl rfl ?_
                refine ⟨_, rfl, ?_⟩
                refine q_iret rfl rfl rfl ?_
                refine ⟨_, rfl, ?_⟩
                refine q_ifne rfl rfl (fun c350 => absurd c350 (by decide)) (fun c350 => ?_)
                refine q_aload_n rfl rfl rfl ?_
                refine q_nV0v rfl rfl (Or.inl rfl) rfl rfl rfl (by decide) (FW_46 S hW) ⟨rfl, rfl⟩ rfl ?_
                change PQ _ _ _ mm_X12_stand 0 [.ref 46, pm_un] [] _ _ 0 0 _
                refine q_aload_n rfl rfl rfl ?_
                refine q_iconst rfl rfl ?_
                refine q_putf rfl rfl (by decide) (FW_46 S hW) (by decide) rfl trivial ?_
                refine q_iconst rfl rfl ?_
                refine q_ist1n rfl rfl rfl rfl ?_
                refine q_iload_n rfl rfl rfl ?_
                refine q_bipush rfl rfl ?_
                refine q_icge rfl rfl (fun c351 => absurd c351 (by decide)) (fun c351 => ?_)
                refine q_aload_n rfl rfl rfl ?_
                refine q_getf rfl rfl (by decide) rfl rfl ?_
                refine q_iload_n rfl rfl rfl ?_
                refine q_aload_n rfl rfl rfl ?_
                refine q_getf rfl rfl (by decide) rfl rfl ?_
                refine q_iload_n rfl rfl rfl ?_
                refine q_iald rfl rfl (by decide) (FW_54 S hW) (by decide) (q_tn (z := 10) rfl ?_)
                refine q_iast rfl rfl (by decide) (FW_52 S hW) (by decide) ?_
                refine q_icc1 (z := 1) rfl rfl rfl rfl rfl ?_
                refine q_goto rfl ?_
                refine q_iload_n rfl rfl rfl ?_
                refine q_bipush rfl rfl ?_
                refine q_icge rfl rfl (fun c352 => absurd c352 (by decide)) (fun c352 => ?_)
                refine q_aload_n rfl rfl rfl ?_
                refine q_getf rfl rfl (by decide) rfl rfl ?_
                refine q_iload_n rfl rfl rfl ?_
                refine q_aload_n rfl rfl rfl ?_
                refine q_getf rfl rfl (by decide) rfl rfl ?_
                refine q_iload_n rfl rfl rfl ?_
                refine q_iald rfl rfl (by decide) (FW_54 S hW) (by decide) (q_tn (z := 0) rfl ?_)
                refine q_iast rfl rfl (by decide) rfl (by decide) ?_
                refine q_icc1 (z := 2) rfl rfl rfl rfl rfl ?_
                refine q_goto rfl ?_
                refine q_iload_n rfl rfl rfl ?_
                refine q_bipush rfl rfl ?_
                refine q_icge rfl rfl (fun c353 => absurd c353 (by decide)) (fun c353 => ?_)
                refine q_aload_n rfl rfl rfl ?_
                refine q_getf rfl rfl (by decide) rfl rfl ?_
                refine q_iload_n rfl rfl rfl ?_
                refine q_aload_n rfl rfl rfl ?_
                refine q_getf rfl rfl (by decide) rfl rfl ?_
                refine q_iload_n rfl rfl rfl ?_
                refine q_iald rfl rfl (by decide) (FW_54 S hW) (by decide) (q_tn (z := 0) rfl ?_)
                refine q_iast rfl rfl (by decide) rfl (by decide) ?_
                refine q_icc1 (z := 3) rfl rfl rfl rfl rfl ?_
                refine q_goto rfl ?_
                refine q_iload_n rfl rfl rfl ?_
                refine q_bipush rfl rfl ?_
                refine q_icge rfl rfl (fun c354 => absurd c354 (by decide)) (fun c354 => ?_)
                refine q_aload_n rfl rfl rfl ?_
                refine q_getf rfl rfl (by decide) rfl rfl ?_
                refine q_iload_n rfl rfl rfl ?_
                refine q_aload_n rfl rfl rfl ?_
                refine q_getf rfl rfl (by decide) rfl rfl ?_
                refine q_iload_n rfl rfl rfl ?_
                refine q_iald rfl rfl (by decide) (FW_54 S hW) (by decide) (q_tn (z := 0) rfl ?_)
                refine q_iast rfl rfl (by decide) rfl (by decide) ?_
                refine q_icc1 (z := 4) rfl rfl rfl rfl rfl ?_
                refine q_goto rfl ?_
                refine q_iload_n rfl rfl rfl ?_
                refine q_bipush rfl rfl ?_
                refine q_icge rfl rfl (fun c355 => absurd c355 (by decide)) (fun c355 => ?_)
                refine q_aload_n rfl rfl rfl ?_
                refine q_getf rfl rfl (by decide) rfl rfl ?_
                refine q_iload_n rfl rfl rfl ?_
                refine q_aload_n rfl rfl rfl ?_
                refine q_getf rfl rfl (by decide) rfl rfl ?_
                refine q_iload_n rfl rfl rfl ?_
                refine q_iald rfl rfl (by decide) (FW_54 S hW) (by decide) (q_tn (z := 0) rfl ?_)
                refine q_iast rfl rfl (by decide) rfl (by decide) ?_
                refine q_icc1 (z := 5) rfl rfl rfl rfl rfl ?_
                refine q_goto rfl ?_
                refine q_iload_n rfl rfl rfl ?_
                refine q_bipush rfl rfl ?_
                refine q_icge rfl rfl (fun c356 => absurd c356 (by decide)) (fun c356 => ?_)
                refine q_aload_n rfl rfl rfl ?_
                refine q_getf rfl rfl (by decide) rfl rfl ?_
                refine q_iload_n rfl rfl rfl ?_
                refine q_aload_n rfl rfl rfl ?_
                refine q_getf rfl rfl (by decide) rfl rfl ?_
                refine q_iload_n rfl rfl rfl ?_
                refine q_iald rfl rfl (by decide) (FW_54 S hW) (by decide) (q_tn (z := 0) rfl ?_)
                refine q_iast rfl rfl (by decide) rfl (by decide) ?_
                refine q_icc1 (z := 6) rfl rfl rfl rfl rfl ?_
                refine q_goto rfl ?_
                refine q_iload_n rfl rfl rfl ?_
                refine q_bipush rfl rfl ?_
                refine q_icge rfl rfl (fun c357 => absurd c357 (by decide)) (fun c357 => ?_)
                refine q_aload_n rfl rfl rfl ?_
                refine q_getf rfl rfl (by decide) rfl rfl ?_
                refine q_iload_n rfl rfl rfl ?_
                refine q_aload_n rfl rfl rfl ?_
                refine q_getf rfl rfl (by decide) rfl rfl ?_
                refine q_iload_n rfl rfl rfl ?_
                refine q_iald rfl rfl (by decide) (FW_54 S hW) (by decide) (q_tn (z := 0) rfl ?_)
                refine q_iast rfl rfl (by decide) rfl (by decide) ?_
                refine q_icc1 (z := 7) rfl rfl rfl rfl rfl ?_
                refine q_goto rfl ?_
                refine q_iload_n rfl rfl rfl ?_
                refine q_bipush rfl rfl ?_
                refine q_icge rfl rfl (fun c358 => absurd c358 (by decide)) (fun c358 => ?_)
                refine q_aload_n rfl rfl rfl ?_
                refine q_getf rfl rfl (by decide) rfl rfl ?_
                refine q_iload_n rfl rfl rfl ?_
                refine q_aload_n rfl rfl rfl ?_
                refine q_getf rfl rfl (by decide) rfl rfl ?_
                refine q_iload_n rfl rfl rfl ?_
                refine q_iald rfl rfl (by decide) (FW_54 S hW) (by decide) (q_tn (z := 0) rfl ?_)
                refine q_iast rfl rfl (by decide) rfl (by decide) ?_
                refine q_icc1 (z := 8) rfl rfl rfl rfl rfl ?_
                refine q_goto rfl ?_
                refine q_iload_n rfl rfl rfl ?_
                refine q_bipush rfl rfl ?_
                refine q_icge rfl rfl (fun c359 => absurd c359 (by decide)) (fun c359 => ?_)
                refine q_aload_n rfl rfl rfl ?_
                refine q_getf rfl rfl (by decide) rfl rfl ?_
                refine q_iload_n rfl rfl rfl ?_
                refine q_aload_n rfl rfl rfl ?_
                refine q_getf rfl rfl (by decide) rfl rfl ?_
                refine q_iload_n rfl rfl rfl ?_
                refine q_iald rfl rfl (by decide) (FW_54 S hW) (by decide) (q_tn (z := 0) rfl ?_)
                refine q_iast rfl rfl (by decide) rfl (by decide) ?_
                refine q_icc1 (z := 9) rfl rfl rfl rfl rfl ?_
                refine q_goto rfl ?_
                refine q_iload_n rfl rfl rfl ?_
                refine q_bipush rfl rfl ?_
                refine q_icge rfl rfl (fun c360 => absurd c360 (by decide)) (fun c360 => ?_)
                refine q_aload_n rfl rfl rfl ?_
                refine q_getf rfl rfl (by decide) rfl rfl ?_
                refine q_iload_n rfl rfl rfl ?_
                refine q_aload_n rfl rfl rfl ?_
                refine q_getf rfl rfl (by decide) rfl rfl ?_
                refine q_iload_n rfl rfl rfl ?_
                refine q_iald rfl rfl (by decide) (FW_54 S hW) (by decide) (q_tn (z := 0) rfl ?_)
                refine q_iast rfl rfl (by decide) rfl (by decide) ?_
                refine q_icc1 (z := 10) rfl rfl rfl rfl rfl ?_
                refine q_goto rfl ?_
                refine q_iload_n rfl rfl rfl ?_
                refine q_bipush rfl rfl ?_
                refine q_icge rfl rfl (fun c361 => absurd c361 (by decide)) (fun c361 => ?_)
                refine q_aload_n rfl rfl rfl ?_
                refine q_getf rfl rfl (by decide) rfl rfl ?_
                refine q_iload_n rfl rfl rfl ?_
                refine q_aload_n rfl rfl rfl ?_
                refine q_getf rfl rfl (by decide) rfl rfl ?_
                refine q_iload_n rfl rfl rfl ?_
                refine q_iald rfl rfl (by decide) (FW_54 S hW) (by decide) (q_tn (z := 0) rfl ?_)
                refine q_iast rfl rfl (by decide) rfl (by decide) ?_
                refine q_icc1 (z := 11) rfl rfl rfl rfl rfl ?_
                refine q_goto rfl ?_
                refine q_iload_n rfl rfl rfl ?_
                refine q_bipush rfl rfl ?_
                refine q_icge rfl rfl (fun c362 => absurd c362 (by decide)) (fun c362 => ?_)
                refine q_aload_n rfl rfl rfl ?_
                refine q_getf rfl rfl (by decide) rfl rfl ?_
                refine q_iload_n rfl rfl rfl ?_
                refine q_aload_n rfl rfl rfl ?_
                refine q_getf rfl rfl (by decide) rfl rfl ?_
                refine q_iload_n rfl rfl rfl ?_
                refine q_iald rfl rfl (by decide) (FW_54 S hW) (by decide) (q_tn (z := 0) rfl ?_)
                refine q_iast rfl rfl (by decide) rfl (by decide) ?_
                refine q_icc1 (z := 12) rfl rfl rfl rfl rfl ?_
                refine q_goto rfl ?_
                refine q_iload_n rfl rfl rfl ?_
                refine q_bipush rfl rfl ?_
                refine q_icge rfl rfl (fun c363 => absurd c363 (by decide)) (fun c363 => ?_)
                refine q_aload_n rfl rfl rfl ?_
                refine q_getf rfl rfl (by decide) rfl rfl ?_
                refine q_iload_n rfl rfl rfl ?_
                refine q_aload_n rfl rfl rfl ?_
                refine q_getf rfl rfl (by decide) rfl rfl ?_
                refine q_iload_n rfl rfl rfl ?_
                refine q_iald rfl rfl (by decide) (FW_54 S hW) (by decide) (q_tn (z := 0) rfl ?_)
                refine q_iast rfl rfl (by decide) rfl (by decide) ?_
                refine q_icc1 (z := 13) rfl rfl rfl rfl rfl ?_
                refine q_goto rfl ?_
                refine q_iload_n rfl rfl rfl ?_
                refine q_bipush rfl rfl ?_
                refine q_icge rfl rfl (fun c364 => absurd c364 (by decide)) (fun c364 => ?_)
                refine q_aload_n rfl rfl rfl ?_
                refine q_getf rfl rfl (by decide) rfl rfl ?_
                refine q_iload_n rfl rfl rfl ?_
                refine q_aload_n rfl rfl rfl ?_
                refine q_getf rfl rfl (by decide) rfl rfl ?_
                refine q_iload_n rfl rfl rfl ?_
                refine q_iald rfl rfl (by decide) (FW_54 S hW) (by decide) (q_tn (z := 0) rfl ?_)
                refine q_iast rfl rfl (by decide) rfl (by decide) ?_
                refine q_icc1 (z := 14) rfl rfl rfl rfl rfl ?_
                refine q_goto rfl ?_
                refine q_iload_n rfl rfl rfl ?_
                refine q_bipush rfl rfl ?_
                refine q_icge rfl rfl (fun c365 => absurd c365 (by decide)) (fun c365 => ?_)
                refine q_aload_n rfl rfl rfl ?_
                refine q_getf rfl rfl (by decide) rfl rfl ?_
                refine q_iload_n rfl rfl rfl ?_
                refine q_aload_n rfl rfl rfl ?_
                refine q_getf rfl rfl (by decide) rfl rfl ?_
                refine q_iload_n rfl rfl rfl ?_
                refine q_iald rfl rfl (by decide) (FW_54 S hW) (by decide) (q_tn (z := 0) rfl ?_)
                refine q_iast rfl rfl (by decide) rfl (by decide) ?_
                refine q_icc1 (z := 15) rfl rfl rfl rfl rfl ?_
                refine q_goto rfl ?_
                refine q_iload_n rfl rfl rfl ?_
                refine q_bipush rfl rfl ?_
                refine q_icge rfl rfl (fun c366 => absurd c366 (by decide)) (fun c366 => ?_)
                refine q_aload_n rfl rfl rfl ?_
                refine q_getf rfl rfl (by decide) rfl rfl ?_
                refine q_iload_n rfl rfl rfl ?_
                refine q_aload_n rfl rfl rfl ?_
                refine q_getf rfl rfl (by decide) rfl rfl ?_
                refine q_iload_n rfl rfl rfl ?_
                refine q_iald rfl rfl (by decide) (FW_54 S hW) (by decide) (q_tn (z := 0) rfl ?_)
                refine q_iast rfl rfl (by decide) rfl (by decide) ?_
                refine q_icc1 (z := 16) rfl rfl rfl rfl rfl ?_
                refine q_goto rfl ?_
                refine q_iload_n rfl rfl rfl ?_
                refine q_bipush rfl rfl ?_
                refine q_icge rfl rfl (fun c367 => absurd c367 (by decide)) (fun c367 => ?_)
                refine q_aload_n rfl rfl rfl ?_
                refine q_getf rfl rfl (by decide) rfl rfl ?_
                refine q_iload_n rfl rfl rfl ?_
                refine q_aload_n rfl rfl rfl ?_
                refine q_getf rfl rfl (by decide) rfl rfl ?_
                refine q_iload_n rfl rfl rfl ?_
                refine q_iald rfl rfl (by decide) (FW_54 S hW) (by decide) (q_tn (z := 0) rfl ?_)
                refine q_iast rfl rfl (by decide) rfl (by decide) ?_
                refine q_icc1 (z := 17) rfl rfl rfl rfl rfl ?_
                refine q_goto rfl ?_
                refine q_iload_n rfl rfl rfl ?_
                refine q_bipush rfl rfl ?_
                refine q_icge rfl rfl (fun c368 => absurd c368 (by decide)) (fun c368 => ?_)
                refine q_aload_n rfl rfl rfl ?_
                refine q_getf rfl rfl (by decide) rfl rfl ?_
                refine q_iload_n rfl rfl rfl ?_
                refine q_aload_n rfl rfl rfl ?_
                refine q_getf rfl rfl (by decide) rfl rfl ?_
                refine q_iload_n rfl rfl rfl ?_
                refine q_iald rfl rfl (by decide) (FW_54 S hW) (by decide) (q_tn (z := 0) rfl ?_)
                refine q_iast rfl rfl (by decide) rfl (by decide) ?_
                refine q_icc1 (z := 18) rfl rfl rfl rfl rfl ?_
                refine q_goto rfl ?_
                refine q_iload_n rfl rfl rfl ?_
                refine q_bipush rfl rfl ?_
                refine q_icge rfl rfl (fun c369 => absurd c369 (by decide)) (fun c369 => ?_)
                refine q_aload_n rfl rfl rfl ?_
                refine q_getf rfl rfl (by decide) rfl rfl ?_
                refine q_iload_n rfl rfl rfl ?_
                refine q_aload_n rfl rfl rfl ?_
                refine q_getf rfl rfl (by decide) rfl rfl ?_
                refine q_iload_n rfl rfl rfl ?_
                refine q_iald rfl rfl (by decide) (FW_54 S hW) (by decide) (q_tn (z := 0) rfl ?_)
                refine q_iast rfl rfl (by decide) rfl (by decide) ?_
                refine q_icc1 (z := 19) rfl rfl rfl rfl rfl ?_
                refine q_goto rfl ?_
                refine q_iload_n rfl rfl rfl ?_
                refine q_bipush rfl rfl ?_
                refine q_icge rfl rfl (fun c370 => absurd c370 (by decide)) (fun c370 => ?_)
                refine q_aload_n rfl rfl rfl ?_
                refine q_getf rfl rfl (by decide) rfl rfl ?_
                refine q_iload_n rfl rfl rfl ?_
                refine q_aload_n rfl rfl rfl ?_
                refine q_getf rfl rfl (by decide) rfl rfl ?_
                refine q_iload_n rfl rfl rfl ?_
                refine q_iald rfl rfl (by decide) (FW_54 S hW) (by decide) (q_tn (z := 0) rfl ?_)
                refine q_iast rfl rfl (by decide) rfl (by decide) ?_
                refine q_icc1 (z := 20) rfl rfl rfl rfl rfl ?_
                refine q_goto rfl ?_
                refine q_iload_n rfl rfl rfl ?_
                refine q_bipush rfl rfl ?_
                refine q_icge rfl rfl (fun c371 => ?_) (fun c371 => absurd (by decide) c371)
                refine q_ret rfl rfl ?_
                refine ⟨rfl, ?_⟩
                refine q_iload_n rfl rfl rfl ?_
                refine q_switch (q := 101) rfl rfl ?_
                refine q_aload_n rfl rfl rfl ?_
                refine q_getf rfl rfl (by decide) rfl rfl ?_
                refine q_iconst rfl rfl ?_
                refine q_iload_n rfl rfl rfl ?_
                refine q_imul rfl rfl (q_tn (z := 0) rfl ?_)
                refine q_iconst rfl rfl ?_
                refine q_iadd rfl rfl (q_tn (z := 1) rfl ?_)
                refine q_iald rfl rfl (by decide) (FW_54 S hW) (by decide) (q_tn (z := 0) rfl ?_)
                refine q_iret rfl rfl trivial ?_
                refine ⟨_, rfl, ?_⟩
                refine q_iceq rfl rfl (fun c372 => ?_) (fun c372 => absurd (by decide) c372)
                refine q_icc4 (z := 6) rfl rfl rfl rfl rfl ?_
                refine q_goto rfl ?_
                refine q_iload rfl rfl rfl ?_
                refine q_aload_nF rfl rfl rfl ?_
                refine q_alenX (x := 6) rfl rfl rfl ?_
                refine q_bipush rfl rfl ?_
                refine q_isub rfl rfl (q_tn (z := 0) rfl ?_)
                refine q_icgt rfl rfl (fun c373 => ?_) (fun c373 => absurd (by decide) c373)
                refine q_iconst rfl rfl ?_
                refine q_iret rfl rfl rfl ?_
                exact hK _ _
              · refine q_switch (q := 119) rfl rfl ?_
                refine q_aload_n rfl rfl rfl ?_
                refine q_getf rfl rfl (by decide) (FW_0 S hW) rfl ?_
                refine q_iload_n rfl rfl rfl ?_
                refine q_nS2 rfl rfl (Or.inl rfl) rfl rfl ⟨rfl, rfl⟩ rfl ?_
                change PQ _ _ _ mm_X0_made 0 [.long 0, pm_un, .int 0] [] _ _ 0 0 _
                refine q_lload_n rfl rfl rfl ?_
                refine q_bipush rfl rfl ?_
                refine q_iload_n rfl rfl rfl ?_
                refine q_imul rfl rfl (q_tn (z := 0) rfl ?_)
                refine q_iconst rfl rfl ?_
                refine q_iadd rfl rfl (q_tn (z := 4) rfl ?_)
                refine q_lushr rfl rfl (q_tnl (z := 0) rfl ?_)
                refine q_l2i rfl rfl (q_tn (z := 0) rfl ?_)
                refine q_iconst rfl rfl ?_
                refine q_iand rfl rfl (q_tn (z := 0) rfl ?_)
                refine q_iret rfl rfl trivial ?_
                refine ⟨_, rfl, ?_⟩
                refine q_iret rfl rfl trivial ?_
                refine ⟨_, rfl, ?_⟩
                refine q_aload_n rfl rfl rfl ?_
                refine q_aload_nF rfl rfl rfl ?_
                refine q_iload rfl rfl rfl ?_
                refine q_iconst rfl rfl ?_
                refine q_iadd rfl rfl (q_tn (z := 1) rfl ?_)
                refine q_ialdX (x := 2) rfl rfl rfl hx1 ?_
                refine q_aload_nF rfl rfl rfl ?_
                refine q_iload rfl rfl rfl ?_
                refine q_iconst rfl rfl ?_
                refine q_iadd rfl rfl (q_tn (z := 2) rfl ?_)
                refine q_ialdX (x := 0) rfl rfl rfl hx2 ?_
                refine q_nV2 rfl rfl (Or.inl rfl) rfl rfl rfl (by decide) (FW_46 S hW) ⟨rfl, rfl⟩ rfl ?_
                change PQ _ _ _ mm_X12_see 0 [.ref 46, .int 2, .int 0] [] _ _ 0 0 _
                refine q_aload_n rfl rfl rfl ?_
                refine q_iload_n rfl rfl rfl ?_
                refine q_iconst rfl rfl ?_
                refine q_bipush rfl rfl ?_
                refine q_nV3 rfl rfl (Or.inl rfl) rfl rfl rfl (by decide) (FW_46 S hW) ⟨rfl, rfl⟩ rfl ?_
                change PQ _ _ _ mm_X12_in 0 [.ref 46, .int 2, .int 0, .int 6] [] _ _ 0 0 _
                refine q_iload_n rfl rfl rfl ?_
                refine q_iload_n rfl rfl rfl ?_
                refine q_iclt rfl rfl (fun c374 => absurd c374 (by decide)) (fun c374 => ?_)
                refine q_iload_n rfl rfl rfl ?_
                refine q_iload_n rfl rfl rfl ?_
                refine q_icgt rfl rfl (fun c375 => absurd c375 (by decide)) (fun c375 => ?_)
                refine q_iconst rfl rfl ?_
                refine q_goto rfl ?_
                refine q_iret rfl rfl rfl ?_
                refine ⟨_, rfl, ?_⟩
                refine q_ifeq rfl rfl (fun c376 => absurd c376 (by decide)) (fun c376 => ?_)
                refine q_iload_n rfl rfl rfl ?_
                refine q_iconst rfl rfl ?_
                refine q_icge rfl rfl (fun c377 => absurd c377 (by decide)) (fun c377 => ?_)
                refine q_aload_n rfl rfl rfl ?_
                refine q_iload_n rfl rfl rfl ?_
                refine q_nV1 rfl rfl (Or.inl rfl) rfl rfl rfl (by decide) (FW_46 S hW) ⟨rfl, rfl⟩ rfl ?_
                change PQ _ _ _ mm_X12_isHand 0 [.ref 46, .int 0] [] _ _ 0 0 _
                refine q_aload_n rfl rfl rfl ?_
                refine q_iload_n rfl rfl rfl ?_
                refine q_iconst rfl rfl ?_
                refine q_aload_n rfl rfl rfl ?_
                refine q_getf rfl rfl (by decide) (FW_46 S hW) rfl ?_
                refine q_iconst rfl rfl ?_
                refine q_isub rfl rfl (q_tn (z := 0) rfl ?_)
                refine q_nV3 rfl rfl (Or.inl rfl) rfl rfl rfl (by decide) (FW_46 S hW) ⟨rfl, rfl⟩ rfl ?_
                change PQ _ _ _ mm_X12_in 0 [.ref 46, .int 0, .int 0, .int 0] [] _ _ 0 0 _
                refine q_iload_n rfl rfl rfl ?_
                refine q_iload_n rfl rfl rfl ?_
                refine q_iclt rfl rfl (fun c378 => absurd c378 (by decide)) (fun c378 => ?_)
                refine q_iload_n rfl rfl rfl ?_
                refine q_iload_n rfl rfl rfl ?_
                refine q_icgt rfl rfl (fun c379 => absurd c379 (by decide)) (fun c379 => ?_)
                refine q_iconst rfl rfl ?_
                refine q_goto rfl ?_
                refine q_iret rfl rfl rfl ?_
                refine ⟨_, rfl, ?_⟩
                refine q_iret rfl rfl rfl ?_
                refine ⟨_, rfl, ?_⟩
                refine q_ifne rfl rfl (fun c380 => absurd c380 (by decide)) (fun c380 => ?_)
                refine q_aload_n rfl rfl rfl ?_
                refine q_nV0v rfl rfl (Or.inl rfl) rfl rfl rfl (by decide) (FW_46 S hW) ⟨rfl, rfl⟩ rfl ?_
                change PQ _ _ _ mm_X12_stand 0 [.ref 46, pm_un] [] _ _ 0 0 _
                refine q_aload_n rfl rfl rfl ?_
                refine q_iconst rfl rfl ?_
                refine q_putf rfl rfl (by decide) (FW_46 S hW) (by decide) rfl trivial ?_
                refine q_iconst rfl rfl ?_
                refine q_ist1n rfl rfl rfl rfl ?_
                refine q_iload_n rfl rfl rfl ?_
                refine q_bipush rfl rfl ?_
                refine q_icge rfl rfl (fun c381 => absurd c381 (by decide)) (fun c381 => ?_)
                refine q_aload_n rfl rfl rfl ?_
                refine q_getf rfl rfl (by decide) rfl rfl ?_
                refine q_iload_n rfl rfl rfl ?_
                refine q_aload_n rfl rfl rfl ?_
                refine q_getf rfl rfl (by decide) rfl rfl ?_
                refine q_iload_n rfl rfl rfl ?_
                refine q_iald rfl rfl (by decide) (FW_54 S hW) (by decide) (q_tn (z := 10) rfl ?_)
                refine q_iast rfl rfl (by decide) (FW_52 S hW) (by decide) ?_
                refine q_icc1 (z := 1) rfl rfl rfl rfl rfl ?_
                refine q_goto rfl ?_
                refine q_iload_n rfl rfl rfl ?_
                refine q_bipush rfl rfl ?_
                refine q_icge rfl rfl (fun c382 => absurd c382 (by decide)) (fun c382 => ?_)
                refine q_aload_n rfl rfl rfl ?_
                refine q_getf rfl rfl (by decide) rfl rfl ?_
                refine q_iload_n rfl rfl rfl ?_
                refine q_aload_n rfl rfl rfl ?_
                refine q_getf rfl rfl (by decide) rfl rfl ?_
                refine q_iload_n rfl rfl rfl ?_
                refine q_iald rfl rfl (by decide) (FW_54 S hW) (by decide) (q_tn (z := 0) rfl ?_)
                refine q_iast rfl rfl (by decide) rfl (by decide) ?_
                refine q_icc1 (z := 2) rfl rfl rfl rfl rfl ?_
                refine q_goto rfl ?_
                refine q_iload_n rfl rfl rfl ?_
                refine q_bipush rfl rfl ?_
                refine q_icge rfl rfl (fun c383 => absurd c383 (by decide)) (fun c383 => ?_)
                refine q_aload_n rfl rfl rfl ?_
                refine q_getf rfl rfl (by decide) rfl rfl ?_
                refine q_iload_n rfl rfl rfl ?_
                refine q_aload_n rfl rfl rfl ?_
                refine q_getf rfl rfl (by decide) rfl rfl ?_
                refine q_iload_n rfl rfl rfl ?_
                refine q_iald rfl rfl (by decide) (FW_54 S hW) (by decide) (q_tn (z := 0) rfl ?_)
                refine q_iast rfl rfl (by decide) rfl (by decide) ?_
                refine q_icc1 (z := 3) rfl rfl rfl rfl rfl ?_
                refine q_goto rfl ?_
                refine q_iload_n rfl rfl rfl ?_
                refine q_bipush rfl rfl ?_
                refine q_icge rfl rfl (fun c384 => absurd c384 (by decide)) (fun c384 => ?_)
                refine q_aload_n rfl rfl rfl ?_
                refine q_getf rfl rfl (by decide) rfl rfl ?_
                refine q_iload_n rfl rfl rfl ?_
                refine q_aload_n rfl rfl rfl ?_
                refine q_getf rfl rfl (by decide) rfl rfl ?_
                refine q_iload_n rfl rfl rfl ?_
                refine q_iald rfl rfl (by decide) (FW_54 S hW) (by decide) (q_tn (z := 0) rfl ?_)
                refine q_iast rfl rfl (by decide) rfl (by decide) ?_
                refine q_icc1 (z := 4) rfl rfl rfl rfl rfl ?_
                refine q_goto rfl ?_
                refine q_iload_n rfl rfl rfl ?_
                refine q_bipush rfl rfl ?_
                refine q_icge rfl rfl (fun c385 => absurd c385 (by decide)) (fun c385 => ?_)
                refine q_aload_n rfl rfl rfl ?_
                refine q_getf rfl rfl (by decide) rfl rfl ?_
                refine q_iload_n rfl rfl rfl ?_
                refine q_aload_n rfl rfl rfl ?_
                refine q_getf rfl rfl (by decide) rfl rfl ?_
                refine q_iload_n rfl rfl rfl ?_
                refine q_iald rfl rfl (by decide) (FW_54 S hW) (by decide) (q_tn (z := 0) rfl ?_)
                refine q_iast rfl rfl (by decide) rfl (by decide) ?_
                refine q_icc1 (z := 5) rfl rfl rfl rfl rfl ?_
                refine q_goto rfl ?_
                refine q_iload_n rfl rfl rfl ?_
                refine q_bipush rfl rfl ?_
                refine q_icge rfl rfl (fun c386 => absurd c386 (by decide)) (fun c386 => ?_)
                refine q_aload_n rfl rfl rfl ?_
                refine q_getf rfl rfl (by decide) rfl rfl ?_
                refine q_iload_n rfl rfl rfl ?_
                refine q_aload_n rfl rfl rfl ?_
                refine q_getf rfl rfl (by decide) rfl rfl ?_
                refine q_iload_n rfl rfl rfl ?_
                refine q_iald rfl rfl (by decide) (FW_54 S hW) (by decide) (q_tn (z := 0) rfl ?_)
                refine q_iast rfl rfl (by decide) rfl (by decide) ?_
                refine q_icc1 (z := 6) rfl rfl rfl rfl rfl ?_
                refine q_goto rfl ?_
                refine q_iload_n rfl rfl rfl ?_
                refine q_bipush rfl rfl ?_
                refine q_icge rfl rfl (fun c387 => absurd c387 (by decide)) (fun c387 => ?_)
                refine q_aload_n rfl rfl rfl ?_
                refine q_getf rfl rfl (by decide) rfl rfl ?_
                refine q_iload_n rfl rfl rfl ?_
                refine q_aload_n rfl rfl rfl ?_
                refine q_getf rfl rfl (by decide) rfl rfl ?_
                refine q_iload_n rfl rfl rfl ?_
                refine q_iald rfl rfl (by decide) (FW_54 S hW) (by decide) (q_tn (z := 0) rfl ?_)
                refine q_iast rfl rfl (by decide) rfl (by decide) ?_
                refine q_icc1 (z := 7) rfl rfl rfl rfl rfl ?_
                refine q_goto rfl ?_
                refine q_iload_n rfl rfl rfl ?_
                refine q_bipush rfl rfl ?_
                refine q_icge rfl rfl (fun c388 => absurd c388 (by decide)) (fun c388 => ?_)
                refine q_aload_n rfl rfl rfl ?_
                refine q_getf rfl rfl (by decide) rfl rfl ?_
                refine q_iload_n rfl rfl rfl ?_
                refine q_aload_n rfl rfl rfl ?_
                refine q_getf rfl rfl (by decide) rfl rfl ?_
                refine q_iload_n rfl rfl rfl ?_
                refine q_iald rfl rfl (by decide) (FW_54 S hW) (by decide) (q_tn (z := 0) rfl ?_)
                refine q_iast rfl rfl (by decide) rfl (by decide) ?_
                refine q_icc1 (z := 8) rfl rfl rfl rfl rfl ?_
                refine q_goto rfl ?_
                refine q_iload_n rfl rfl rfl ?_
                refine q_bipush rfl rfl ?_
                refine q_icge rfl rfl (fun c389 => absurd c389 (by decide)) (fun c389 => ?_)
                refine q_aload_n rfl rfl rfl ?_
                refine q_getf rfl rfl (by decide) rfl rfl ?_
                refine q_iload_n rfl rfl rfl ?_
                refine q_aload_n rfl rfl rfl ?_
                refine q_getf rfl rfl (by decide) rfl rfl ?_
                refine q_iload_n rfl rfl rfl ?_
                refine q_iald rfl rfl (by decide) (FW_54 S hW) (by decide) (q_tn (z := 0) rfl ?_)
                refine q_iast rfl rfl (by decide) rfl (by decide) ?_
                refine q_icc1 (z := 9) rfl rfl rfl rfl rfl ?_
                refine q_goto rfl ?_
                refine q_iload_n rfl rfl rfl ?_
                refine q_bipush rfl rfl ?_
                refine q_icge rfl rfl (fun c390 => absurd c390 (by decide)) (fun c390 => ?_)
                refine q_aload_n rfl rfl rfl ?_
                refine q_getf rfl rfl (by decide) rfl rfl ?_
                refine q_iload_n rfl rfl rfl ?_
                refine q_aload_n rfl rfl rfl ?_
                refine q_getf rfl rfl (by decide) rfl rfl ?_
                refine q_iload_n rfl rfl rfl ?_
                refine q_iald rfl rfl (by decide) (FW_54 S hW) (by decide) (q_tn (z := 0) rfl ?_)
                refine q_iast rfl rfl (by decide) rfl (by decide) ?_
                refine q_icc1 (z := 10) rfl rfl rfl rfl rfl ?_
                refine q_goto rfl ?_
                refine q_iload_n rfl rfl rfl ?_
                refine q_bipush rfl rfl ?_
                refine q_icge rfl rfl (fun c391 => absurd c391 (by decide)) (fun c391 => ?_)
                refine q_aload_n rfl rfl rfl ?_
                refine q_getf rfl rfl (by decide) rfl rfl ?_
                refine q_iload_n rfl rfl rfl ?_
                refine q_aload_n rfl rfl rfl ?_
                refine q_getf rfl rfl (by decide) rfl rfl ?_
                refine q_iload_n rfl rfl rfl ?_
                refine q_iald rfl rfl (by decide) (FW_54 S hW) (by decide) (q_tn (z := 0) rfl ?_)
                refine q_iast rfl rfl (by decide) rfl (by decide) ?_
                refine q_icc1 (z := 11) rfl rfl rfl rfl rfl ?_
                refine q_goto rfl ?_
                refine q_iload_n rfl rfl rfl ?_
                refine q_bipush rfl rfl ?_
                refine q_icge rfl rfl (fun c392 => absurd c392 (by decide)) (fun c392 => ?_)
                refine q_aload_n rfl rfl rfl ?_
                refine q_getf rfl rfl (by decide) rfl rfl ?_
                refine q_iload_n rfl rfl rfl ?_
                refine q_aload_n rfl rfl rfl ?_
                refine q_getf rfl rfl (by decide) rfl rfl ?_
                refine q_iload_n rfl rfl rfl ?_
                refine q_iald rfl rfl (by decide) (FW_54 S hW) (by decide) (q_tn (z := 0) rfl ?_)
                refine q_iast rfl rfl (by decide) rfl (by decide) ?_
                refine q_icc1 (z := 12) rfl rfl rfl rfl rfl ?_
                refine q_goto rfl ?_
                refine q_iload_n rfl rfl rfl ?_
                refine q_bipush rfl rfl ?_
                refine q_icge rfl rfl (fun c393 => absurd c393 (by decide)) (fun c393 => ?_)
                refine q_aload_n rfl rfl rfl ?_
                refine q_getf rfl rfl (by decide) rfl rfl ?_
                refine q_iload_n rfl rfl rfl ?_
                refine q_aload_n rfl rfl rfl ?_
                refine q_getf rfl rfl (by decide) rfl rfl ?_
                refine q_iload_n rfl rfl rfl ?_
                refine q_iald rfl rfl (by decide) (FW_54 S hW) (by decide) (q_tn (z := 0) rfl ?_)
                refine q_iast rfl rfl (by decide) rfl (by decide) ?_
                refine q_icc1 (z := 13) rfl rfl rfl rfl rfl ?_
                refine q_goto rfl ?_
                refine q_iload_n rfl rfl rfl ?_
                refine q_bipush rfl rfl ?_
                refine q_icge rfl rfl (fun c394 => absurd c394 (by decide)) (fun c394 => ?_)
                refine q_aload_n rfl rfl rfl ?_
                refine q_getf rfl rfl (by decide) rfl rfl ?_
                refine q_iload_n rfl rfl rfl ?_
                refine q_aload_n rfl rfl rfl ?_
                refine q_getf rfl rfl (by decide) rfl rfl ?_
                refine q_iload_n rfl rfl rfl ?_
                refine q_iald rfl rfl (by decide) (FW_54 S hW) (by decide) (q_tn (z := 0) rfl ?_)
                refine q_iast rfl rfl (by decide) rfl (by decide) ?_
                refine q_icc1 (z := 14) rfl rfl rfl rfl rfl ?_
                refine q_goto rfl ?_
                refine q_iload_n rfl rfl rfl ?_
                refine q_bipush rfl rfl ?_
                refine q_icge rfl rfl (fun c395 => absurd c395 (by decide)) (fun c395 => ?_)
                refine q_aload_n rfl rfl rfl ?_
                refine q_getf rfl rfl (by decide) rfl rfl ?_
                refine q_iload_n rfl rfl rfl ?_
                refine q_aload_n rfl rfl rfl ?_
                refine q_getf rfl rfl (by decide) rfl rfl ?_
                refine q_iload_n rfl rfl rfl ?_
                refine q_iald rfl rfl (by decide) (FW_54 S hW) (by decide) (q_tn (z := 0) rfl ?_)
                refine q_iast rfl rfl (by decide) rfl (by decide) ?_
                refine q_icc1 (z := 15) rfl rfl rfl rfl rfl ?_
                refine q_goto rfl ?_
                refine q_iload_n rfl rfl rfl ?_
                refine q_bipush rfl rfl ?_
                refine q_icge rfl rfl (fun c396 => absurd c396 (by decide)) (fun c396 => ?_)
                refine q_aload_n rfl rfl rfl ?_
                refine q_getf rfl rfl (by decide) rfl rfl ?_
                refine q_iload_n rfl rfl rfl ?_
                refine q_aload_n rfl rfl rfl ?_
                refine q_getf rfl rfl (by decide) rfl rfl ?_
                refine q_iload_n rfl rfl rfl ?_
                refine q_iald rfl rfl (by decide) (FW_54 S hW) (by decide) (q_tn (z := 0) rfl ?_)
                refine q_iast rfl rfl (by decide) rfl (by decide) ?_
                refine q_icc1 (z := 16) rfl rfl rfl rfl rfl ?_
                refine q_goto rfl ?_
                refine q_iload_n rfl rfl rfl ?_
                refine q_bipush rfl rfl ?_
                refine q_icge rfl rfl (fun c397 => absurd c397 (by decide)) (fun c397 => ?_)
                refine q_aload_n rfl rfl rfl ?_
                refine q_getf rfl rfl (by decide) rfl rfl ?_
                refine q_iload_n rfl rfl rfl ?_
                refine q_aload_n rfl rfl rfl ?_
                refine q_getf rfl rfl (by decide) rfl rfl ?_
                refine q_iload_n rfl rfl rfl ?_
                refine q_iald rfl rfl (by decide) (FW_54 S hW) (by decide) (q_tn (z := 0) rfl ?_)
                refine q_iast rfl rfl (by decide) rfl (by decide) ?_
                refine q_icc1 (z := 17) rfl rfl rfl rfl rfl ?_
                refine q_goto rfl ?_
                refine q_iload_n rfl rfl rfl ?_
                refine q_bipush rfl rfl ?_
                refine q_icge rfl rfl (fun c398 => absurd c398 (by decide)) (fun c398 => ?_)
                refine q_aload_n rfl rfl rfl ?_
                refine q_getf rfl rfl (by decide) rfl rfl ?_
                refine q_iload_n rfl rfl rfl ?_
                refine q_aload_n rfl rfl rfl ?_
                refine q_getf rfl rfl (by decide) rfl rfl ?_
                refine q_iload_n rfl rfl rfl ?_
                refine q_iald rfl rfl (by decide) (FW_54 S hW) (by decide) (q_tn (z := 0) rfl ?_)
                refine q_iast rfl rfl (by decide) rfl (by decide) ?_
                refine q_icc1 (z := 18) rfl rfl rfl rfl rfl ?_
                refine q_goto rfl ?_
                refine q_iload_n rfl rfl rfl ?_
                refine q_bipush rfl rfl ?_
                refine q_icge rfl rfl (fun c399 => absurd c399 (by decide)) (fun c399 => ?_)
                refine q_aload_n rfl rfl rfl ?_
                refine q_getf rfl rfl (by decide) rfl rfl ?_
                refine q_iload_n rfl rfl rfl ?_
                refine q_aload_n rfl rfl rfl ?_
                refine q_getf rfl rfl (by decide) rfl rfl ?_
                refine q_iload_n rfl rfl rfl ?_
                refine q_iald rfl rfl (by decide) (FW_54 S hW) (by decide) (q_tn (z := 0) rfl ?_)
                refine q_iast rfl rfl (by decide) rfl (by decide) ?_
                refine q_icc1 (z := 19) rfl rfl rfl rfl rfl ?_
                refine q_goto rfl ?_
                refine q_iload_n rfl rfl rfl ?_
                refine q_bipush rfl rfl ?_
                refine q_icge rfl rfl (fun c400 => absurd c400 (by decide)) (fun c400 => ?_)
                refine q_aload_n rfl rfl rfl ?_
                refine q_getf rfl rfl (by decide) rfl rfl ?_
                refine q_iload_n rfl rfl rfl ?_
                refine q_aload_n rfl rfl rfl ?_
                refine q_getf rfl rfl (by decide) rfl rfl ?_
                refine q_iload_n rfl rfl rfl ?_
                refine q_iald rfl rfl (by decide) (FW_54 S hW) (by decide) (q_tn (z := 0) rfl ?_)
                refine q_iast rfl rfl (by decide) rfl (by decide) ?_
                refine q_icc1 (z := 20) rfl rfl rfl rfl rfl ?_
                refine q_goto rfl ?_
                refine q_iload_n rfl rfl rfl ?_
                refine q_bipush rfl rfl ?_
                refine q_icge rfl rfl (fun c401 => ?_) (fun c401 => absurd (by decide) c401)
                refine q_ret rfl rfl ?_
                refine ⟨rfl, ?_⟩
                refine q_iload_n rfl rfl rfl ?_
                refine q_switch (q := 112) rfl rfl ?_
                refine q_aload_n rfl rfl rfl ?_
                refine q_getf rfl rfl (by decide) rfl rfl ?_
                refine q_iconst rfl rfl ?_
                refine q_iload_n rfl rfl rfl ?_
                refine q_imul rfl rfl (q_tn (z := 0) rfl ?_)
                refine q_iconst rfl rfl ?_
                refine q_iadd rfl rfl (q_tn (z := 2) rfl ?_)
                refine q_iald rfl rfl (by decide) (FW_54 S hW) (by decide) (q_tn (z := 0) rfl ?_)
                refine q_iret rfl rfl trivial ?_
                refine ⟨_, rfl, ?_⟩
                refine q_iceq rfl rfl (fun c402 => ?_) (fun c402 => absurd (by decide) c402)
                refine q_icc4 (z := 6) rfl rfl rfl rfl rfl ?_
                refine q_goto rfl ?_
                refine q_iload rfl rfl rfl ?_
                refine q_aload_nF rfl rfl rfl ?_
                refine q_alenX (x := 6) rfl rfl rfl ?_
                refine q_bipush rfl rfl ?_
                refine q_isub rfl rfl (q_tn (z := 0) rfl ?_)
                refine q_icgt rfl rfl (fun c403 => ?_) (fun c403 => absurd (by decide) c403)
                refine q_iconst rfl rfl ?_
                refine q_iret rfl rfl rfl ?_
                exact hK _ _
              · refine q_switch (q := 128) rfl rfl ?_
                refine q_aload_n rfl rfl rfl ?_
                refine q_iload_n rfl rfl rfl ?_
                refine q_nV1 rfl rfl (Or.inl rfl) rfl rfl rfl (by decide) (FW_0 S hW) ⟨rfl, rfl⟩ rfl ?_
                change PQ _ _ _ mm_X11_runCanStep 0 [.ref 0, .int 0] [] _ _ 0 0 _
                refine q_aload_n rfl rfl rfl ?_
                refine q_getf rfl rfl (by decide) (FW_0 S hW) rfl ?_
                refine q_aload_n rfl rfl rfl ?_
                refine q_getf rfl rfl (by decide) (FW_0 S hW) rfl ?_
                refine q_nV1 rfl rfl (Or.inl rfl) rfl rfl rfl (by decide) (FW_7 S hW) ⟨rfl, rfl⟩ rfl ?_
                change PQ _ _ _ mm_X6_ableHands 0 [.ref 7, .long 0, pm_un, pm_un, pm_un, pm_un] [] _ _ 0 0 _
                refine q_aload_n rfl rfl rfl ?_
                refine q_lload_n rfl rfl rfl ?_
                refine q_nV1 rfl rfl (Or.inl rfl) rfl rfl rfl (by decide) (FW_7 S hW) ⟨rfl, rfl⟩ rfl ?_
                change PQ _ _ _ mm_X6_allMeet 0 [.ref 7, .long 0, pm_un, pm_un, pm_un] [] _ _ 0 0 _
                refine q_iconst rfl rfl ?_
                refine q_ist3n rfl rfl rfl rfl ?_
                refine q_iload_n rfl rfl rfl ?_
                refine q_aload_n rfl rfl rfl ?_
                refine q_getf rfl rfl (by decide) (FW_7 S hW) rfl ?_
                refine q_getf rfl rfl (by decide) (FW_1 S hW) rfl ?_
                refine q_icge rfl rfl (fun c404 => absurd c404 (by decide)) (fun c404 => ?_)
                refine q_aload_n rfl rfl rfl ?_
                refine q_getf rfl rfl (by decide) (FW_7 S hW) rfl ?_
                refine q_iload_n rfl rfl rfl ?_
                refine q_lload_n rfl rfl rfl ?_
                refine q_iload_n rfl rfl rfl ?_
                refine q_nS2 rfl rfl (Or.inl rfl) rfl rfl ⟨rfl, rfl⟩ rfl ?_
                change PQ _ _ _ mm_X0_position 0 [.long 0, pm_un, .int 0] [] _ _ 0 0 _
                refine q_lload_n rfl rfl rfl ?_
                refine q_bipush rfl rfl ?_
                refine q_iload_n rfl rfl rfl ?_
                refine q_imul rfl rfl (q_tn (z := 0) rfl ?_)
                refine q_lushr rfl rfl (q_tnl (z := 0) rfl ?_)
                refine q_l2i rfl rfl (q_tn (z := 0) rfl ?_)
                refine q_bipush rfl rfl ?_
                refine q_iand rfl rfl (q_tn (z := 0) rfl ?_)
                refine q_iret rfl rfl trivial ?_
                refine ⟨_, rfl, ?_⟩
                refine q_nV2 rfl rfl (Or.inl rfl) rfl rfl rfl (by decide) (FW_1 S hW) ⟨rfl, rfl⟩ rfl ?_
                change PQ _ _ _ mm_X8_cellOf 0 [.ref 1, .int 0, .int 0, pm_un] [] _ _ 0 0 _
                refine q_iload_n rfl rfl rfl ?_
                refine q_iflt rfl rfl (fun c405 => absurd c405 (by decide)) (fun c405 => ?_)
                refine q_iload_n rfl rfl rfl ?_
                refine q_aload_n rfl rfl rfl ?_
                refine q_getf rfl rfl (by decide) (FW_1 S hW) rfl ?_
                refine q_icge rfl rfl (fun c406 => absurd c406 (by decide)) (fun c406 => ?_)
                refine q_iload_n rfl rfl rfl ?_
                refine q_iflt rfl rfl (fun c407 => absurd c407 (by decide)) (fun c407 => ?_)
                refine q_iload_n rfl rfl rfl ?_
                refine q_aload_n rfl rfl rfl ?_
                refine q_getf rfl rfl (by decide) (FW_1 S hW) rfl ?_
                refine q_iload_n rfl rfl rfl ?_
                refine q_iald rfl rfl (by decide) (FW_3 S hW) (by decide) (q_tn (z := 0) rfl ?_)
                refine q_icge rfl rfl (fun c408 => ?_) (fun c408 => absurd (by decide) c408)
                refine q_iconst rfl rfl ?_
                refine q_ist3n rfl rfl rfl rfl ?_
                refine q_iload_n rfl rfl rfl ?_
                refine q_ifeq rfl rfl (fun c409 => ?_) (fun c409 => absurd (by decide) c409)
                refine q_iconst rfl rfl ?_
                refine q_iret rfl rfl trivial ?_
                refine ⟨_, rfl, ?_⟩
                refine q_ist4 rfl rfl rfl rfl ?_
                refine q_iload rfl rfl rfl ?_
                refine q_iflt rfl rfl (fun c410 => ?_) (fun c410 => absurd (by decide) c410)
                refine q_icc3 (z := 1) rfl rfl rfl rfl rfl ?_
                refine q_goto rfl ?_
                refine q_iload_n rfl rfl rfl ?_
                refine q_aload_n rfl rfl rfl ?_
                refine q_getf rfl rfl (by decide) (FW_7 S hW) rfl ?_
                refine q_getf rfl rfl (by decide) (FW_1 S hW) rfl ?_
                refine q_icge rfl rfl (fun c411 => ?_) (fun c411 => absurd (by decide) c411)
                refine q_iconst rfl rfl ?_
                refine q_iret rfl rfl rfl ?_
                refine ⟨_, rfl, ?_⟩
                refine q_ist3n rfl rfl rfl rfl ?_
                refine q_iconst rfl rfl ?_
                refine q_ist4 rfl rfl rfl rfl ?_
                refine q_iconst rfl rfl ?_
                refine q_ist5 rfl rfl rfl rfl ?_
                refine q_iload rfl rfl rfl ?_
                refine q_aload_n rfl rfl rfl ?_
                refine q_getf rfl rfl (by decide) (FW_7 S hW) rfl ?_
                refine q_getf rfl rfl (by decide) (FW_1 S hW) rfl ?_
                refine q_icge rfl rfl (fun c412 => absurd c412 (by decide)) (fun c412 => ?_)
                refine q_aload_n rfl rfl rfl ?_
                refine q_lload_n rfl rfl rfl ?_
                refine q_iload rfl rfl rfl ?_
                refine q_iload_n rfl rfl rfl ?_
                refine q_nV3 rfl rfl (Or.inl rfl) rfl rfl rfl (by decide) (FW_7 S hW) ⟨rfl, rfl⟩ rfl ?_
                change PQ _ _ _ mm_X6_isAble 0 [.ref 7, .long 0, pm_un, .int 0, .int 1, pm_un, pm_un, pm_un] [] _ _ 0 0 _
                refine q_aload_n rfl rfl rfl ?_
                refine q_getf rfl rfl (by decide) (FW_7 S hW) rfl ?_
                refine q_iload_n rfl rfl rfl ?_
                refine q_lload_n rfl rfl rfl ?_
                refine q_iload_n rfl rfl rfl ?_
                refine q_nS2 rfl rfl (Or.inl rfl) rfl rfl ⟨rfl, rfl⟩ rfl ?_
                change PQ _ _ _ mm_X0_position 0 [.long 0, pm_un, .int 0] [] _ _ 0 0 _
                refine q_lload_n rfl rfl rfl ?_
                refine q_bipush rfl rfl ?_
                refine q_iload_n rfl rfl rfl ?_
                refine q_imul rfl rfl (q_tn (z := 0) rfl ?_)
                refine q_lushr rfl rfl (q_tnl (z := 0) rfl ?_)
                refine q_l2i rfl rfl (q_tn (z := 0) rfl ?_)
                refine q_bipush rfl rfl ?_
                refine q_iand rfl rfl (q_tn (z := 0) rfl ?_)
                refine q_iret rfl rfl trivial ?_
                refine ⟨_, rfl, ?_⟩
                refine q_nV2 rfl rfl (Or.inl rfl) rfl rfl rfl (by decide) (FW_1 S hW) ⟨rfl, rfl⟩ rfl ?_
                change PQ _ _ _ mm_X8_cellOf 0 [.ref 1, .int 0, .int 0, pm_un] [] _ _ 0 0 _
                refine q_iload_n rfl rfl rfl ?_
                refine q_iflt rfl rfl (fun c413 => absurd c413 (by decide)) (fun c413 => ?_)
                refine q_iload_n rfl rfl rfl ?_
                refine q_aload_n rfl rfl rfl ?_
                refine q_getf rfl rfl (by decide) (FW_1 S hW) rfl ?_
                refine q_icge rfl rfl (fun c414 => absurd c414 (by decide)) (fun c414 => ?_)
                refine q_iload_n rfl rfl rfl ?_
                refine q_iflt rfl rfl (fun c415 => absurd c415 (by decide)) (fun c415 => ?_)
                refine q_iload_n rfl rfl rfl ?_
                refine q_aload_n rfl rfl rfl ?_
                refine q_getf rfl rfl (by decide) (FW_1 S hW) rfl ?_
                refine q_iload_n rfl rfl rfl ?_
                refine q_iald rfl rfl (by decide) (FW_3 S hW) (by decide) (q_tn (z := 0) rfl ?_)
                refine q_icge rfl rfl (fun c416 => ?_) (fun c416 => absurd (by decide) c416)
                refine q_iconst rfl rfl ?_
                refine q_ist3n rfl rfl rfl rfl ?_
                refine q_iload_n rfl rfl rfl ?_
                refine q_ifeq rfl rfl (fun c417 => ?_) (fun c417 => absurd (by decide) c417)
                refine q_iconst rfl rfl ?_
                refine q_iret rfl rfl trivial ?_
                refine ⟨_, rfl, ?_⟩
                refine q_ist5 rfl rfl rfl rfl ?_
                refine q_iload rfl rfl rfl ?_
                refine q_ifge rfl rfl (fun c418 => absurd c418 (by decide)) (fun c418 => ?_)
                refine q_iconst rfl rfl ?_
                refine q_iret rfl rfl rfl ?_
                refine ⟨_, rfl, ?_⟩
                refine q_ifeq rfl rfl (fun c419 => ?_) (fun c419 => absurd (by decide) c419)
                refine q_icc5 (z := 1) rfl rfl rfl rfl rfl ?_
                refine q_goto rfl ?_
                refine q_iload rfl rfl rfl ?_
                refine q_aload_n rfl rfl rfl ?_
                refine q_getf rfl rfl (by decide) (FW_7 S hW) rfl ?_
                refine q_getf rfl rfl (by decide) (FW_1 S hW) rfl ?_
                refine q_icge rfl rfl (fun c420 => ?_) (fun c420 => absurd (by decide) c420)
                refine q_iload rfl rfl rfl ?_
                refine q_iret rfl rfl trivial ?_
                refine ⟨_, rfl, ?_⟩
                refine q_iload_n rfl rfl rfl ?_
                refine q_iushr rfl rfl (q_tn (z := 0) rfl ?_)
                refine q_iconst rfl rfl ?_
                refine q_iand rfl rfl (q_tn (z := 0) rfl ?_)
                refine q_ifeq rfl rfl (fun c421 => ?_) (fun c421 => absurd (by decide) c421)
                refine q_iconst rfl rfl ?_
                refine q_iret rfl rfl rfl ?_
                refine ⟨_, rfl, ?_⟩
                refine q_ifeq rfl rfl (fun c422 => ?_) (fun c422 => absurd (by decide) c422)
                refine q_iconst rfl rfl ?_
                refine q_iret rfl rfl trivial ?_
                refine ⟨_, rfl, ?_⟩
                refine q_aload_n rfl rfl rfl ?_
                refine q_aload_nF rfl rfl rfl ?_
                refine q_iload rfl rfl rfl ?_
                refine q_iconst rfl rfl ?_
                refine q_iadd rfl rfl (q_tn (z := 1) rfl ?_)
                refine q_ialdX (x := 3) rfl rfl rfl hx1 ?_
                refine q_aload_nF rfl rfl rfl ?_
                refine q_iload rfl rfl rfl ?_
                refine q_iconst rfl rfl ?_
                refine q_iadd rfl rfl (q_tn (z := 2) rfl ?_)
                refine q_ialdX (x := 0) rfl rfl rfl hx2 ?_
                refine q_nV2 rfl rfl (Or.inl rfl) rfl rfl rfl (by decide) (FW_46 S hW) ⟨rfl, rfl⟩ rfl ?_
                change PQ _ _ _ mm_X12_see 0 [.ref 46, .int 3, .int 0] [] _ _ 0 0 _
                refine q_aload_n rfl rfl rfl ?_
                refine q_iload_n rfl rfl rfl ?_
                refine q_iconst rfl rfl ?_
                refine q_bipush rfl rfl ?_
                refine q_nV3 rfl rfl (Or.inl rfl) rfl rfl rfl (by decide) (FW_46 S hW) ⟨rfl, rfl⟩ rfl ?_
                change PQ _ _ _ mm_X12_in 0 [.ref 46, .int 3, .int 0, .int 6] [] _ _ 0 0 _
                refine q_iload_n rfl rfl rfl ?_
                refine q_iload_n rfl rfl rfl ?_
                refine q_iclt rfl rfl (fun c423 => absurd c423 (by decide)) (fun c423 => ?_)
                refine q_iload_n rfl rfl rfl ?_
                refine q_iload_n rfl rfl rfl ?_
                refine q_icgt rfl rfl (fun c424 => absurd c424 (by decide)) (fun c424 => ?_)
                refine q_iconst rfl rfl ?_
                refine q_goto rfl ?_
                refine q_iret rfl rfl rfl ?_
                refine ⟨_, rfl, ?_⟩
                refine q_ifeq rfl rfl (fun c425 => absurd c425 (by decide)) (fun c425 => ?_)
                refine q_iload_n rfl rfl rfl ?_
                refine q_iconst rfl rfl ?_
                refine q_icge rfl rfl (fun c426 => absurd c426 (by decide)) (fun c426 => ?_)
                refine q_aload_n rfl rfl rfl ?_
                refine q_iload_n rfl rfl rfl ?_
                refine q_nV1 rfl rfl (Or.inl rfl) rfl rfl rfl (by decide) (FW_46 S hW) ⟨rfl, rfl⟩ rfl ?_
                change PQ _ _ _ mm_X12_isHand 0 [.ref 46, .int 0] [] _ _ 0 0 _
                refine q_aload_n rfl rfl rfl ?_
                refine q_iload_n rfl rfl rfl ?_
                refine q_iconst rfl rfl ?_
                refine q_aload_n rfl rfl rfl ?_
                refine q_getf rfl rfl (by decide) (FW_46 S hW) rfl ?_
                refine q_iconst rfl rfl ?_
                refine q_isub rfl rfl (q_tn (z := 0) rfl ?_)
                refine q_nV3 rfl rfl (Or.inl rfl) rfl rfl rfl (by decide) (FW_46 S hW) ⟨rfl, rfl⟩ rfl ?_
                change PQ _ _ _ mm_X12_in 0 [.ref 46, .int 0, .int 0, .int 0] [] _ _ 0 0 _
                refine q_iload_n rfl rfl rfl ?_
                refine q_iload_n rfl rfl rfl ?_
                refine q_iclt rfl rfl (fun c427 => absurd c427 (by decide)) (fun c427 => ?_)
                refine q_iload_n rfl rfl rfl ?_
                refine q_iload_n rfl rfl rfl ?_
                refine q_icgt rfl rfl (fun c428 => absurd c428 (by decide)) (fun c428 => ?_)
                refine q_iconst rfl rfl ?_
                refine q_goto rfl ?_
                refine q_iret rfl rfl rfl ?_
                refine ⟨_, rfl, ?_⟩
                refine q_iret rfl rfl rfl ?_
                refine ⟨_, rfl, ?_⟩
                refine q_ifne rfl rfl (fun c429 => absurd c429 (by decide)) (fun c429 => ?_)
                refine q_aload_n rfl rfl rfl ?_
                refine q_nV0v rfl rfl (Or.inl rfl) rfl rfl rfl (by decide) (FW_46 S hW) ⟨rfl, rfl⟩ rfl ?_
                change PQ _ _ _ mm_X12_stand 0 [.ref 46, pm_un] [] _ _ 0 0 _
                refine q_aload_n rfl rfl rfl ?_
                refine q_iconst rfl rfl ?_
                refine q_putf rfl rfl (by decide) (FW_46 S hW) (by decide) rfl trivial ?_
                refine q_iconst rfl rfl ?_
                refine q_ist1n rfl rfl rfl rfl ?_
                refine q_iload_n rfl rfl rfl ?_
                refine q_bipush rfl rfl ?_
                refine q_icge rfl rfl (fun c430 => absurd c430 (by decide)) (fun c430 => ?_)
                refine q_aload_n rfl rfl rfl ?_
                refine q_getf rfl rfl (by decide) rfl rfl ?_
                refine q_iload_n rfl rfl rfl ?_
                refine q_aload_n rfl rfl rfl ?_
                refine q_getf rfl rfl (by decide) rfl rfl ?_
                refine q_iload_n rfl rfl rfl ?_
                refine q_iald rfl rfl (by decide) (FW_54 S hW) (by decide) (q_tn (z := 10) rfl ?_)
                refine q_iast rfl rfl (by decide) (FW_52 S hW) (by decide) ?_
                refine q_icc1 (z := 1) rfl rfl rfl rfl rfl ?_
                refine q_goto rfl ?_
                refine q_iload_n rfl rfl rfl ?_
                refine q_bipush rfl rfl ?_
                refine q_icge rfl rfl (fun c431 => absurd c431 (by decide)) (fun c431 => ?_)
                refine q_aload_n rfl rfl rfl ?_
                refine q_getf rfl rfl (by decide) rfl rfl ?_
                refine q_iload_n rfl rfl rfl ?_
                refine q_aload_n rfl rfl rfl ?_
                refine q_getf rfl rfl (by decide) rfl rfl ?_
                refine q_iload_n rfl rfl rfl ?_
                refine q_iald rfl rfl (by decide) (FW_54 S hW) (by decide) (q_tn (z := 0) rfl ?_)
                refine q_iast rfl rfl (by decide) rfl (by decide) ?_
                refine q_icc1 (z := 2) rfl rfl rfl rfl rfl ?_
                refine q_goto rfl ?_
                refine q_iload_n rfl rfl rfl ?_
                refine q_bipush rfl rfl ?_
                refine q_icge rfl rfl (fun c432 => absurd c432 (by decide)) (fun c432 => ?_)
                refine q_aload_n rfl rfl rfl ?_
                refine q_getf rfl rfl (by decide) rfl rfl ?_
                refine q_iload_n rfl rfl rfl ?_
                refine q_aload_n rfl rfl rfl ?_
                refine q_getf rfl rfl (by decide) rfl rfl ?_
                refine q_iload_n rfl rfl rfl ?_
                refine q_iald rfl rfl (by decide) (FW_54 S hW) (by decide) (q_tn (z := 0) rfl ?_)
                refine q_iast rfl rfl (by decide) rfl (by decide) ?_
                refine q_icc1 (z := 3) rfl rfl rfl rfl rfl ?_
                refine q_goto rfl ?_
                refine q_iload_n rfl rfl rfl ?_
                refine q_bipush rfl rfl ?_
                refine q_icge rfl rfl (fun c433 => absurd c433 (by decide)) (fun c433 => ?_)
                refine q_aload_n rfl rfl rfl ?_
                refine q_getf rfl rfl (by decide) rfl rfl ?_
                refine q_iload_n rfl rfl rfl ?_
                refine q_aload_n rfl rfl rfl ?_
                refine q_getf rfl rfl (by decide) rfl rfl ?_
                refine q_iload_n rfl rfl rfl ?_
                refine q_iald rfl rfl (by decide) (FW_54 S hW) (by decide) (q_tn (z := 0) rfl ?_)
                refine q_iast rfl rfl (by decide) rfl (by decide) ?_
                refine q_icc1 (z := 4) rfl rfl rfl rfl rfl ?_
                refine q_goto rfl ?_
                refine q_iload_n rfl rfl rfl ?_
                refine q_bipush rfl rfl ?_
                refine q_icge rfl rfl (fun c434 => absurd c434 (by decide)) (fun c434 => ?_)
                refine q_aload_n rfl rfl rfl ?_
                refine q_getf rfl rfl (by decide) rfl rfl ?_
                refine q_iload_n rfl rfl rfl ?_
                refine q_aload_n rfl rfl rfl ?_
                refine q_getf rfl rfl (by decide) rfl rfl ?_
                refine q_iload_n rfl rfl rfl ?_
                refine q_iald rfl rfl (by decide) (FW_54 S hW) (by decide) (q_tn (z := 0) rfl ?_)
                refine q_iast rfl rfl (by decide) rfl (by decide) ?_
                refine q_icc1 (z := 5) rfl rfl rfl rfl rfl ?_
                refine q_goto rfl ?_
                refine q_iload_n rfl rfl rfl ?_
                refine q_bipush rfl rfl ?_
                refine q_icge rfl rfl (fun c435 => absurd c435 (by decide)) (fun c435 => ?_)
                refine q_aload_n rfl rfl rfl ?_
                refine q_getf rfl rfl (by decide) rfl rfl ?_
                refine q_iload_n rfl rfl rfl ?_
                refine q_aload_n rfl rfl rfl ?_
                refine q_getf rfl rfl (by decide) rfl rfl ?_
                refine q_iload_n rfl rfl rfl ?_
                refine q_iald rfl rfl (by decide) (FW_54 S hW) (by decide) (q_tn (z := 0) rfl ?_)
                refine q_iast rfl rfl (by decide) rfl (by decide) ?_
                refine q_icc1 (z := 6) rfl rfl rfl rfl rfl ?_
                refine q_goto rfl ?_
                refine q_iload_n rfl rfl rfl ?_
                refine q_bipush rfl rfl ?_
                refine q_icge rfl rfl (fun c436 => absurd c436 (by decide)) (fun c436 => ?_)
                refine q_aload_n rfl rfl rfl ?_
                refine q_getf rfl rfl (by decide) rfl rfl ?_
                refine q_iload_n rfl rfl rfl ?_
                refine q_aload_n rfl rfl rfl ?_
                refine q_getf rfl rfl (by decide) rfl rfl ?_
                refine q_iload_n rfl rfl rfl ?_
                refine q_iald rfl rfl (by decide) (FW_54 S hW) (by decide) (q_tn (z := 0) rfl ?_)
                refine q_iast rfl rfl (by decide) rfl (by decide) ?_
                refine q_icc1 (z := 7) rfl rfl rfl rfl rfl ?_
                refine q_goto rfl ?_
                refine q_iload_n rfl rfl rfl ?_
                refine q_bipush rfl rfl ?_
                refine q_icge rfl rfl (fun c437 => absurd c437 (by decide)) (fun c437 => ?_)
                refine q_aload_n rfl rfl rfl ?_
                refine q_getf rfl rfl (by decide) rfl rfl ?_
                refine q_iload_n rfl rfl rfl ?_
                refine q_aload_n rfl rfl rfl ?_
                refine q_getf rfl rfl (by decide) rfl rfl ?_
                refine q_iload_n rfl rfl rfl ?_
                refine q_iald rfl rfl (by decide) (FW_54 S hW) (by decide) (q_tn (z := 0) rfl ?_)
                refine q_iast rfl rfl (by decide) rfl (by decide) ?_
                refine q_icc1 (z := 8) rfl rfl rfl rfl rfl ?_
                refine q_goto rfl ?_
                refine q_iload_n rfl rfl rfl ?_
                refine q_bipush rfl rfl ?_
                refine q_icge rfl rfl (fun c438 => absurd c438 (by decide)) (fun c438 => ?_)
                refine q_aload_n rfl rfl rfl ?_
                refine q_getf rfl rfl (by decide) rfl rfl ?_
                refine q_iload_n rfl rfl rfl ?_
                refine q_aload_n rfl rfl rfl ?_
                refine q_getf rfl rfl (by decide) rfl rfl ?_
                refine q_iload_n rfl rfl rfl ?_
                refine q_iald rfl rfl (by decide) (FW_54 S hW) (by decide) (q_tn (z := 0) rfl ?_)
                refine q_iast rfl rfl (by decide) rfl (by decide) ?_
                refine q_icc1 (z := 9) rfl rfl rfl rfl rfl ?_
                refine q_goto rfl ?_
                refine q_iload_n rfl rfl rfl ?_
                refine q_bipush rfl rfl ?_
                refine q_icge rfl rfl (fun c439 => absurd c439 (by decide)) (fun c439 => ?_)
                refine q_aload_n rfl rfl rfl ?_
                refine q_getf rfl rfl (by decide) rfl rfl ?_
                refine q_iload_n rfl rfl rfl ?_
                refine q_aload_n rfl rfl rfl ?_
                refine q_getf rfl rfl (by decide) rfl rfl ?_
                refine q_iload_n rfl rfl rfl ?_
                refine q_iald rfl rfl (by decide) (FW_54 S hW) (by decide) (q_tn (z := 0) rfl ?_)
                refine q_iast rfl rfl (by decide) rfl (by decide) ?_
                refine q_icc1 (z := 10) rfl rfl rfl rfl rfl ?_
                refine q_goto rfl ?_
                refine q_iload_n rfl rfl rfl ?_
                refine q_bipush rfl rfl ?_
                refine q_icge rfl rfl (fun c440 => absurd c440 (by decide)) (fun c440 => ?_)
                refine q_aload_n rfl rfl rfl ?_
                refine q_getf rfl rfl (by decide) rfl rfl ?_
                refine q_iload_n rfl rfl rfl ?_
                refine q_aload_n rfl rfl rfl ?_
                refine q_getf rfl rfl (by decide) rfl rfl ?_
                refine q_iload_n rfl rfl rfl ?_
                refine q_iald rfl rfl (by decide) (FW_54 S hW) (by decide) (q_tn (z := 0) rfl ?_)
                refine q_iast rfl rfl (by decide) rfl (by decide) ?_
                refine q_icc1 (z := 11) rfl rfl rfl rfl rfl ?_
                refine q_goto rfl ?_
                refine q_iload_n rfl rfl rfl ?_
                refine q_bipush rfl rfl ?_
                refine q_icge rfl rfl (fun c441 => absurd c441 (by decide)) (fun c441 => ?_)
                refine q_aload_n rfl rfl rfl ?_
                refine q_getf rfl rfl (by decide) rfl rfl ?_
                refine q_iload_n rfl rfl rfl ?_
                refine q_aload_n rfl rfl rfl ?_
                refine q_getf rfl rfl (by decide) rfl rfl ?_
                refine q_iload_n rfl rfl rfl ?_
                refine q_iald rfl rfl (by decide) (FW_54 S hW) (by decide) (q_tn (z := 0) rfl ?_)
                refine q_iast rfl rfl (by decide) rfl (by decide) ?_
                refine q_icc1 (z := 12) rfl rfl rfl rfl rfl ?_
                refine q_goto rfl ?_
                refine q_iload_n rfl rfl rfl ?_
                refine q_bipush rfl rfl ?_
                refine q_icge rfl rfl (fun c442 => absurd c442 (by decide)) (fun c442 => ?_)
                refine q_aload_n rfl rfl rfl ?_
                refine q_getf rfl rfl (by decide) rfl rfl ?_
                refine q_iload_n rfl rfl rfl ?_
                refine q_aload_n rfl rfl rfl ?_
                refine q_getf rfl rfl (by decide) rfl rfl ?_
                refine q_iload_n rfl rfl rfl ?_
                refine q_iald rfl rfl (by decide) (FW_54 S hW) (by decide) (q_tn (z := 0) rfl ?_)
                refine q_iast rfl rfl (by decide) rfl (by decide) ?_
                refine q_icc1 (z := 13) rfl rfl rfl rfl rfl ?_
                refine q_goto rfl ?_
                refine q_iload_n rfl rfl rfl ?_
                refine q_bipush rfl rfl ?_
                refine q_icge rfl rfl (fun c443 => absurd c443 (by decide)) (fun c443 => ?_)
                refine q_aload_n rfl rfl rfl ?_
                refine q_getf rfl rfl (by decide) rfl rfl ?_
                refine q_iload_n rfl rfl rfl ?_
                refine q_aload_n rfl rfl rfl ?_
                refine q_getf rfl rfl (by decide) rfl rfl ?_
                refine q_iload_n rfl rfl rfl ?_
                refine q_iald rfl rfl (by decide) (FW_54 S hW) (by decide) (q_tn (z := 0) rfl ?_)
                refine q_iast rfl rfl (by decide) rfl (by decide) ?_
                refine q_icc1 (z := 14) rfl rfl rfl rfl rfl ?_
                refine q_goto rfl ?_
                refine q_iload_n rfl rfl rfl ?_
                refine q_bipush rfl rfl ?_
                refine q_icge rfl rfl (fun c444 => absurd c444 (by decide)) (fun c444 => ?_)
                refine q_aload_n rfl rfl rfl ?_
                refine q_getf rfl rfl (by decide) rfl rfl ?_
                refine q_iload_n rfl rfl rfl ?_
                refine q_aload_n rfl rfl rfl ?_
                refine q_getf rfl rfl (by decide) rfl rfl ?_
                refine q_iload_n rfl rfl rfl ?_
                refine q_iald rfl rfl (by decide) (FW_54 S hW) (by decide) (q_tn (z := 0) rfl ?_)
                refine q_iast rfl rfl (by decide) rfl (by decide) ?_
                refine q_icc1 (z := 15) rfl rfl rfl rfl rfl ?_
                refine q_goto rfl ?_
                refine q_iload_n rfl rfl rfl ?_
                refine q_bipush rfl rfl ?_
                refine q_icge rfl rfl (fun c445 => absurd c445 (by decide)) (fun c445 => ?_)
                refine q_aload_n rfl rfl rfl ?_
                refine q_getf rfl rfl (by decide) rfl rfl ?_
                refine q_iload_n rfl rfl rfl ?_
                refine q_aload_n rfl rfl rfl ?_
                refine q_getf rfl rfl (by decide) rfl rfl ?_
                refine q_iload_n rfl rfl rfl ?_
                refine q_iald rfl rfl (by decide) (FW_54 S hW) (by decide) (q_tn (z := 0) rfl ?_)
                refine q_iast rfl rfl (by decide) rfl (by decide) ?_
                refine q_icc1 (z := 16) rfl rfl rfl rfl rfl ?_
                refine q_goto rfl ?_
                refine q_iload_n rfl rfl rfl ?_
                refine q_bipush rfl rfl ?_
                refine q_icge rfl rfl (fun c446 => absurd c446 (by decide)) (fun c446 => ?_)
                refine q_aload_n rfl rfl rfl ?_
                refine q_getf rfl rfl (by decide) rfl rfl ?_
                refine q_iload_n rfl rfl rfl ?_
                refine q_aload_n rfl rfl rfl ?_
                refine q_getf rfl rfl (by decide) rfl rfl ?_
                refine q_iload_n rfl rfl rfl ?_
                refine q_iald rfl rfl (by decide) (FW_54 S hW) (by decide) (q_tn (z := 0) rfl ?_)
                refine q_iast rfl rfl (by decide) rfl (by decide) ?_
                refine q_icc1 (z := 17) rfl rfl rfl rfl rfl ?_
                refine q_goto rfl ?_
                refine q_iload_n rfl rfl rfl ?_
                refine q_bipush rfl rfl ?_
                refine q_icge rfl rfl (fun c447 => absurd c447 (by decide)) (fun c447 => ?_)
                refine q_aload_n rfl rfl rfl ?_
                refine q_getf rfl rfl (by decide) rfl rfl ?_
                refine q_iload_n rfl rfl rfl ?_
                refine q_aload_n rfl rfl rfl ?_
                refine q_getf rfl rfl (by decide) rfl rfl ?_
                refine q_iload_n rfl rfl rfl ?_
                refine q_iald rfl rfl (by decide) (FW_54 S hW) (by decide) (q_tn (z := 0) rfl ?_)
                refine q_iast rfl rfl (by decide) rfl (by decide) ?_
                refine q_icc1 (z := 18) rfl rfl rfl rfl rfl ?_
                refine q_goto rfl ?_
                refine q_iload_n rfl rfl rfl ?_
                refine q_bipush rfl rfl ?_
                refine q_icge rfl rfl (fun c448 => absurd c448 (by decide)) (fun c448 => ?_)
                refine q_aload_n rfl rfl rfl ?_
                refine q_getf rfl rfl (by decide) rfl rfl ?_
                refine q_iload_n rfl rfl rfl ?_
                refine q_aload_n rfl rfl rfl ?_
                refine q_getf rfl rfl (by decide) rfl rfl ?_
                refine q_iload_n rfl rfl rfl ?_
                refine q_iald rfl rfl (by decide) (FW_54 S hW) (by decide) (q_tn (z := 0) rfl ?_)
                refine q_iast rfl rfl (by decide) rfl (by decide) ?_
                refine q_icc1 (z := 19) rfl rfl rfl rfl rfl ?_
                refine q_goto rfl ?_
                refine q_iload_n rfl rfl rfl ?_
                refine q_bipush rfl rfl ?_
                refine q_icge rfl rfl (fun c449 => absurd c449 (by decide)) (fun c449 => ?_)
                refine q_aload_n rfl rfl rfl ?_
                refine q_getf rfl rfl (by decide) rfl rfl ?_
                refine q_iload_n rfl rfl rfl ?_
                refine q_aload_n rfl rfl rfl ?_
                refine q_getf rfl rfl (by decide) rfl rfl ?_
                refine q_iload_n rfl rfl rfl ?_
                refine q_iald rfl rfl (by decide) (FW_54 S hW) (by decide) (q_tn (z := 0) rfl ?_)
                refine q_iast rfl rfl (by decide) rfl (by decide) ?_
                refine q_icc1 (z := 20) rfl rfl rfl rfl rfl ?_
                refine q_goto rfl ?_
                refine q_iload_n rfl rfl rfl ?_
                refine q_bipush rfl rfl ?_
                refine q_icge rfl rfl (fun c450 => ?_) (fun c450 => absurd (by decide) c450)
                refine q_ret rfl rfl ?_
                refine ⟨rfl, ?_⟩
                refine q_iload_n rfl rfl rfl ?_
                refine q_switch (q := 123) rfl rfl ?_
                refine q_aload_n rfl rfl rfl ?_
                refine q_iload_n rfl rfl rfl ?_
                refine q_iconst rfl rfl ?_
                refine q_nV2 rfl rfl (Or.inl rfl) rfl rfl rfl (by decide) rfl ⟨rfl, rfl⟩ rfl ?_
                change PQ _ _ _ mm_X12_canStep 0 [.ref 46, .int 0, .int 0, pm_un] [] _ _ 0 0 _
                refine q_aload_n rfl rfl rfl ?_
                refine q_iload_n rfl rfl rfl ?_
                refine q_nV1 rfl rfl (Or.inl rfl) rfl rfl rfl (by decide) rfl ⟨rfl, rfl⟩ rfl ?_
                change PQ _ _ _ mm_X12_isOver 0 [.ref 46, .int 0] [] _ _ 0 0 _
                refine q_aload_n rfl rfl rfl ?_
                refine q_getf rfl rfl (by decide) rfl rfl ?_
                refine q_iconst rfl rfl ?_
                refine q_iload_n rfl rfl rfl ?_
                refine q_imul rfl rfl (q_tn (z := 0) rfl ?_)
                refine q_iald rfl rfl (by decide) rfl (by decide) (q_tn (z := 10) rfl ?_)
                refine q_bipush rfl rfl ?_
                refine q_iclt rfl rfl (fun c451 => absurd c451 (by decide)) (fun c451 => ?_)
                refine q_iconst rfl rfl ?_
                refine q_goto rfl ?_
                refine q_iret rfl rfl rfl ?_
                refine ⟨_, rfl, ?_⟩
                refine q_ifeq rfl rfl (fun c452 => absurd c452 (by decide)) (fun c452 => ?_)
                refine q_iconst rfl rfl ?_
                refine q_iret rfl rfl rfl ?_
                refine ⟨_, rfl, ?_⟩
                refine q_ifeq rfl rfl (fun c453 => ?_) (fun c453 => absurd (by decide) c453)
                refine q_iconst rfl rfl ?_
                refine q_iret rfl rfl trivial ?_
                refine ⟨_, rfl, ?_⟩
                refine q_iceq rfl rfl (fun c454 => ?_) (fun c454 => absurd (by decide) c454)
                refine q_icc4 (z := 6) rfl rfl rfl rfl rfl ?_
                refine q_goto rfl ?_
                refine q_iload rfl rfl rfl ?_
                refine q_aload_nF rfl rfl rfl ?_
                refine q_alenX (x := 6) rfl rfl rfl ?_
                refine q_bipush rfl rfl ?_
                refine q_isub rfl rfl (q_tn (z := 0) rfl ?_)
                refine q_icgt rfl rfl (fun c455 => ?_) (fun c455 => absurd (by decide) c455)
                refine q_iconst rfl rfl ?_
                refine q_iret rfl rfl rfl ?_
                exact hK _ _
              · refine q_switch (q := 142) rfl rfl ?_
                refine q_aload_n rfl rfl rfl ?_
                refine q_getf rfl rfl (by decide) (FW_0 S hW) rfl ?_
                refine q_iload_n rfl rfl rfl ?_
                refine q_nS2 rfl rfl (Or.inl rfl) rfl rfl ⟨rfl, rfl⟩ rfl ?_
                change PQ _ _ _ mm_X0_sleep 0 [.long 0, pm_un, .int 0] [] _ _ 0 0 _
                refine q_lload_n rfl rfl rfl ?_
                refine q_bipush rfl rfl ?_
                refine q_iload_n rfl rfl rfl ?_
                refine q_imul rfl rfl (q_tn (z := 0) rfl ?_)
                refine q_bipush rfl rfl ?_
                refine q_iadd rfl rfl (q_tn (z := 10) rfl ?_)
                refine q_lushr rfl rfl (q_tnl (z := 0) rfl ?_)
                refine q_l2i rfl rfl (q_tn (z := 0) rfl ?_)
                refine q_iconst rfl rfl ?_
                refine q_iand rfl rfl (q_tn (z := 0) rfl ?_)
                refine q_iret rfl rfl trivial ?_
                refine ⟨_, rfl, ?_⟩
                refine q_iret rfl rfl trivial ?_
                refine ⟨_, rfl, ?_⟩
                refine q_aload_n rfl rfl rfl ?_
                refine q_aload_nF rfl rfl rfl ?_
                refine q_iload rfl rfl rfl ?_
                refine q_iconst rfl rfl ?_
                refine q_iadd rfl rfl (q_tn (z := 1) rfl ?_)
                refine q_ialdX (x := 4) rfl rfl rfl hx1 ?_
                refine q_aload_nF rfl rfl rfl ?_
                refine q_iload rfl rfl rfl ?_
                refine q_iconst rfl rfl ?_
                refine q_iadd rfl rfl (q_tn (z := 2) rfl ?_)
                refine q_ialdX (x := 0) rfl rfl rfl hx2 ?_
                refine q_nV2 rfl rfl (Or.inl rfl) rfl rfl rfl (by decide) (FW_46 S hW) ⟨rfl, rfl⟩ rfl ?_
                change PQ _ _ _ mm_X12_see 0 [.ref 46, .int 4, .int 0] [] _ _ 0 0 _
                refine q_aload_n rfl rfl rfl ?_
                refine q_iload_n rfl rfl rfl ?_
                refine q_iconst rfl rfl ?_
                refine q_bipush rfl rfl ?_
                refine q_nV3 rfl rfl (Or.inl rfl) rfl rfl rfl (by decide) (FW_46 S hW) ⟨rfl, rfl⟩ rfl ?_
                change PQ _ _ _ mm_X12_in 0 [.ref 46, .int 4, .int 0, .int 6] [] _ _ 0 0 _
                refine q_iload_n rfl rfl rfl ?_
                refine q_iload_n rfl rfl rfl ?_
                refine q_iclt rfl rfl (fun c456 => absurd c456 (by decide)) (fun c456 => ?_)
                refine q_iload_n rfl rfl rfl ?_
                refine q_iload_n rfl rfl rfl ?_
                refine q_icgt rfl rfl (fun c457 => absurd c457 (by decide)) (fun c457 => ?_)
                refine q_iconst rfl rfl ?_
                refine q_goto rfl ?_
                refine q_iret rfl rfl rfl ?_
                refine ⟨_, rfl, ?_⟩
                refine q_ifeq rfl rfl (fun c458 => absurd c458 (by decide)) (fun c458 => ?_)
                refine q_iload_n rfl rfl rfl ?_
                refine q_iconst rfl rfl ?_
                refine q_icge rfl rfl (fun c459 => absurd c459 (by decide)) (fun c459 => ?_)
                refine q_aload_n rfl rfl rfl ?_
                refine q_iload_n rfl rfl rfl ?_
                refine q_nV1 rfl rfl (Or.inl rfl) rfl rfl rfl (by decide) (FW_46 S hW) ⟨rfl, rfl⟩ rfl ?_
                change PQ _ _ _ mm_X12_isHand 0 [.ref 46, .int 0] [] _ _ 0 0 _
                refine q_aload_n rfl rfl rfl ?_
                refine q_iload_n rfl rfl rfl ?_
                refine q_iconst rfl rfl ?_
                refine q_aload_n rfl rfl rfl ?_
                refine q_getf rfl rfl (by decide) (FW_46 S hW) rfl ?_
                refine q_iconst rfl rfl ?_
                refine q_isub rfl rfl (q_tn (z := 0) rfl ?_)
                refine q_nV3 rfl rfl (Or.inl rfl) rfl rfl rfl (by decide) (FW_46 S hW) ⟨rfl, rfl⟩ rfl ?_
                change PQ _ _ _ mm_X12_in 0 [.ref 46, .int 0, .int 0, .int 0] [] _ _ 0 0 _
                refine q_iload_n rfl rfl rfl ?_
                refine q_iload_n rfl rfl rfl ?_
                refine q_iclt rfl rfl (fun c460 => absurd c460 (by decide)) (fun c460 => ?_)
                refine q_iload_n rfl rfl rfl ?_
                refine q_iload_n rfl rfl rfl ?_
                refine q_icgt rfl rfl (fun c461 => absurd c461 (by decide)) (fun c461 => ?_)
                refine q_iconst rfl rfl ?_
                refine q_goto rfl ?_
                refine q_iret rfl rfl rfl ?_
                refine ⟨_, rfl, ?_⟩
                refine q_iret rfl rfl rfl ?_
                refine ⟨_, rfl, ?_⟩
                refine q_ifne rfl rfl (fun c462 => absurd c462 (by decide)) (fun c462 => ?_)
                refine q_aload_n rfl rfl rfl ?_
                refine q_nV0v rfl rfl (Or.inl rfl) rfl rfl rfl (by decide) (FW_46 S hW) ⟨rfl, rfl⟩ rfl ?_
                change PQ _ _ _ mm_X12_stand 0 [.ref 46, pm_un] [] _ _ 0 0 _
                refine q_aload_n rfl rfl rfl ?_
                refine q_iconst rfl rfl ?_
                refine q_putf rfl rfl (by decide) (FW_46 S hW) (by decide) rfl trivial ?_
                refine q_iconst rfl rfl ?_
                refine q_ist1n rfl rfl rfl rfl ?_
                refine q_iload_n rfl rfl rfl ?_
                refine q_bipush rfl rfl ?_
                refine q_icge rfl rfl (fun c463 => absurd c463 (by decide)) (fun c463 => ?_)
                refine q_aload_n rfl rfl rfl ?_
                refine q_getf rfl rfl (by decide) rfl rfl ?_
                refine q_iload_n rfl rfl rfl ?_
                refine q_aload_n rfl rfl rfl ?_
                refine q_getf rfl rfl (by decide) rfl rfl ?_
                refine q_iload_n rfl rfl rfl ?_
                refine q_iald rfl rfl (by decide) (FW_54 S hW) (by decide) (q_tn (z := 10) rfl ?_)
                refine q_iast rfl rfl (by decide) (FW_52 S hW) (by decide) ?_
                refine q_icc1 (z := 1) rfl rfl rfl rfl rfl ?_
                refine q_goto rfl ?_
                refine q_iload_n rfl rfl rfl ?_
                refine q_bipush rfl rfl ?_
                refine q_icge rfl rfl (fun c464 => absurd c464 (by decide)) (fun c464 => ?_)
                refine q_aload_n rfl rfl rfl ?_
                refine q_getf rfl rfl (by decide) rfl rfl ?_
                refine q_iload_n rfl rfl rfl ?_
                refine q_aload_n rfl rfl rfl ?_
                refine q_getf rfl rfl (by decide) rfl rfl ?_
                refine q_iload_n rfl rfl rfl ?_
                refine q_iald rfl rfl (by decide) (FW_54 S hW) (by decide) (q_tn (z := 0) rfl ?_)
                refine q_iast rfl rfl (by decide) rfl (by decide) ?_
                refine q_icc1 (z := 2) rfl rfl rfl rfl rfl ?_
                refine q_goto rfl ?_
                refine q_iload_n rfl rfl rfl ?_
                refine q_bipush rfl rfl ?_
                refine q_icge rfl rfl (fun c465 => absurd c465 (by decide)) (fun c465 => ?_)
                refine q_aload_n rfl rfl rfl ?_
                refine q_getf rfl rfl (by decide) rfl rfl ?_
                refine q_iload_n rfl rfl rfl ?_
                refine q_aload_n rfl rfl rfl ?_
                refine q_getf rfl rfl (by decide) rfl rfl ?_
                refine q_iload_n rfl rfl rfl ?_
                refine q_iald rfl rfl (by decide) (FW_54 S hW) (by decide) (q_tn (z := 0) rfl ?_)
                refine q_iast rfl rfl (by decide) rfl (by decide) ?_
                refine q_icc1 (z := 3) rfl rfl rfl rfl rfl ?_
                refine q_goto rfl ?_
                refine q_iload_n rfl rfl rfl ?_
                refine q_bipush rfl rfl ?_
                refine q_icge rfl rfl (fun c466 => absurd c466 (by decide)) (fun c466 => ?_)
                refine q_aload_n rfl rfl rfl ?_
                refine q_getf rfl rfl (by decide) rfl rfl ?_
                refine q_iload_n rfl rfl rfl ?_
                refine q_aload_n rfl rfl rfl ?_
                refine q_getf rfl rfl (by decide) rfl rfl ?_
                refine q_iload_n rfl rfl rfl ?_
                refine q_iald rfl rfl (by decide) (FW_54 S hW) (by decide) (q_tn (z := 0) rfl ?_)
                refine q_iast rfl rfl (by decide) rfl (by decide) ?_
                refine q_icc1 (z := 4) rfl rfl rfl rfl rfl ?_
                refine q_goto rfl ?_
                refine q_iload_n rfl rfl rfl ?_
                refine q_bipush rfl rfl ?_
                refine q_icge rfl rfl (fun c467 => absurd c467 (by decide)) (fun c467 => ?_)
                refine q_aload_n rfl rfl rfl ?_
                refine q_getf rfl rfl (by decide) rfl rfl ?_
                refine q_iload_n rfl rfl rfl ?_
                refine q_aload_n rfl rfl rfl ?_
                refine q_getf rfl rfl (by decide) rfl rfl ?_
                refine q_iload_n rfl rfl rfl ?_
                refine q_iald rfl rfl (by decide) (FW_54 S hW) (by decide) (q_tn (z := 0) rfl ?_)
                refine q_iast rfl rfl (by decide) rfl (by decide) ?_
                refine q_icc1 (z := 5) rfl rfl rfl rfl rfl ?_
                refine q_goto rfl ?_
                refine q_iload_n rfl rfl rfl ?_
                refine q_bipush rfl rfl ?_
                refine q_icge rfl rfl (fun c468 => absurd c468 (by decide)) (fun c468 => ?_)
                refine q_aload_n rfl rfl rfl ?_
                refine q_getf rfl rfl (by decide) rfl rfl ?_
                refine q_iload_n rfl rfl rfl ?_
                refine q_aload_n rfl rfl rfl ?_
                refine q_getf rfl rfl (by decide) rfl rfl ?_
                refine q_iload_n rfl rfl rfl ?_
                refine q_iald rfl rfl (by decide) (FW_54 S hW) (by decide) (q_tn (z := 0) rfl ?_)
                refine q_iast rfl rfl (by decide) rfl (by decide) ?_
                refine q_icc1 (z := 6) rfl rfl rfl rfl rfl ?_
                refine q_goto rfl ?_
                refine q_iload_n rfl rfl rfl ?_
                refine q_bipush rfl rfl ?_
                refine q_icge rfl rfl (fun c469 => absurd c469 (by decide)) (fun c469 => ?_)
                refine q_aload_n rfl rfl rfl ?_
                refine q_getf rfl rfl (by decide) rfl rfl ?_
                refine q_iload_n rfl rfl rfl ?_
                refine q_aload_n rfl rfl rfl ?_
                refine q_getf rfl rfl (by decide) rfl rfl ?_
                refine q_iload_n rfl rfl rfl ?_
                refine q_iald rfl rfl (by decide) (FW_54 S hW) (by decide) (q_tn (z := 0) rfl ?_)
                refine q_iast rfl rfl (by decide) rfl (by decide) ?_
                refine q_icc1 (z := 7) rfl rfl rfl rfl rfl ?_
                refine q_goto rfl ?_
                refine q_iload_n rfl rfl rfl ?_
                refine q_bipush rfl rfl ?_
                refine q_icge rfl rfl (fun c470 => absurd c470 (by decide)) (fun c470 => ?_)
                refine q_aload_n rfl rfl rfl ?_
                refine q_getf rfl rfl (by decide) rfl rfl ?_
                refine q_iload_n rfl rfl rfl ?_
                refine q_aload_n rfl rfl rfl ?_
                refine q_getf rfl rfl (by decide) rfl rfl ?_
                refine q_iload_n rfl rfl rfl ?_
                refine q_iald rfl rfl (by decide) (FW_54 S hW) (by decide) (q_tn (z := 0) rfl ?_)
                refine q_iast rfl rfl (by decide) rfl (by decide) ?_
                refine q_icc1 (z := 8) rfl rfl rfl rfl rfl ?_
                refine q_goto rfl ?_
                refine q_iload_n rfl rfl rfl ?_
                refine q_bipush rfl rfl ?_
                refine q_icge rfl rfl (fun c471 => absurd c471 (by decide)) (fun c471 => ?_)
                refine q_aload_n rfl rfl rfl ?_
                refine q_getf rfl rfl (by decide) rfl rfl ?_
                refine q_iload_n rfl rfl rfl ?_
                refine q_aload_n rfl rfl rfl ?_
                refine q_getf rfl rfl (by decide) rfl rfl ?_
                refine q_iload_n rfl rfl rfl ?_
                refine q_iald rfl rfl (by decide) (FW_54 S hW) (by decide) (q_tn (z := 0) rfl ?_)
                refine q_iast rfl rfl (by decide) rfl (by decide) ?_
                refine q_icc1 (z := 9) rfl rfl rfl rfl rfl ?_
                refine q_goto rfl ?_
                refine q_iload_n rfl rfl rfl ?_
                refine q_bipush rfl rfl ?_
                refine q_icge rfl rfl (fun c472 => absurd c472 (by decide)) (fun c472 => ?_)
                refine q_aload_n rfl rfl rfl ?_
                refine q_getf rfl rfl (by decide) rfl rfl ?_
                refine q_iload_n rfl rfl rfl ?_
                refine q_aload_n rfl rfl rfl ?_
                refine q_getf rfl rfl (by decide) rfl rfl ?_
                refine q_iload_n rfl rfl rfl ?_
                refine q_iald rfl rfl (by decide) (FW_54 S hW) (by decide) (q_tn (z := 0) rfl ?_)
                refine q_iast rfl rfl (by decide) rfl (by decide) ?_
                refine q_icc1 (z := 10) rfl rfl rfl rfl rfl ?_
                refine q_goto rfl ?_
                refine q_iload_n rfl rfl rfl ?_
                refine q_bipush rfl rfl ?_
                refine q_icge rfl rfl (fun c473 => absurd c473 (by decide)) (fun c473 => ?_)
                refine q_aload_n rfl rfl rfl ?_
                refine q_getf rfl rfl (by decide) rfl rfl ?_
                refine q_iload_n rfl rfl rfl ?_
                refine q_aload_n rfl rfl rfl ?_
                refine q_getf rfl rfl (by decide) rfl rfl ?_
                refine q_iload_n rfl rfl rfl ?_
                refine q_iald rfl rfl (by decide) (FW_54 S hW) (by decide) (q_tn (z := 0) rfl ?_)
                refine q_iast rfl rfl (by decide) rfl (by decide) ?_
                refine q_icc1 (z := 11) rfl rfl rfl rfl rfl ?_
                refine q_goto rfl ?_
                refine q_iload_n rfl rfl rfl ?_
                refine q_bipush rfl rfl ?_
                refine q_icge rfl rfl (fun c474 => absurd c474 (by decide)) (fun c474 => ?_)
                refine q_aload_n rfl rfl rfl ?_
                refine q_getf rfl rfl (by decide) rfl rfl ?_
                refine q_iload_n rfl rfl rfl ?_
                refine q_aload_n rfl rfl rfl ?_
                refine q_getf rfl rfl (by decide) rfl rfl ?_
                refine q_iload_n rfl rfl rfl ?_
                refine q_iald rfl rfl (by decide) (FW_54 S hW) (by decide) (q_tn (z := 0) rfl ?_)
                refine q_iast rfl rfl (by decide) rfl (by decide) ?_
                refine q_icc1 (z := 12) rfl rfl rfl rfl rfl ?_
                refine q_goto rfl ?_
                refine q_iload_n rfl rfl rfl ?_
                refine q_bipush rfl rfl ?_
                refine q_icge rfl rfl (fun c475 => absurd c475 (by decide)) (fun c475 => ?_)
                refine q_aload_n rfl rfl rfl ?_
                refine q_getf rfl rfl (by decide) rfl rfl ?_
                refine q_iload_n rfl rfl rfl ?_
                refine q_aload_n rfl rfl rfl ?_
                refine q_getf rfl rfl (by decide) rfl rfl ?_
                refine q_iload_n rfl rfl rfl ?_
                refine q_iald rfl rfl (by decide) (FW_54 S hW) (by decide) (q_tn (z := 0) rfl ?_)
                refine q_iast rfl rfl (by decide) rfl (by decide) ?_
                refine q_icc1 (z := 13) rfl rfl rfl rfl rfl ?_
                refine q_goto rfl ?_
                refine q_iload_n rfl rfl rfl ?_
                refine q_bipush rfl rfl ?_
                refine q_icge rfl rfl (fun c476 => absurd c476 (by decide)) (fun c476 => ?_)
                refine q_aload_n rfl rfl rfl ?_
                refine q_getf rfl rfl (by decide) rfl rfl ?_
                refine q_iload_n rfl rfl rfl ?_
                refine q_aload_n rfl rfl rfl ?_
                refine q_getf rfl rfl (by decide) rfl rfl ?_
                refine q_iload_n rfl rfl rfl ?_
                refine q_iald rfl rfl (by decide) (FW_54 S hW) (by decide) (q_tn (z := 0) rfl ?_)
                refine q_iast rfl rfl (by decide) rfl (by decide) ?_
                refine q_icc1 (z := 14) rfl rfl rfl rfl rfl ?_
                refine q_goto rfl ?_
                refine q_iload_n rfl rfl rfl ?_
                refine q_bipush rfl rfl ?_
                refine q_icge rfl rfl (fun c477 => absurd c477 (by decide)) (fun c477 => ?_)
                refine q_aload_n rfl rfl rfl ?_
                refine q_getf rfl rfl (by decide) rfl rfl ?_
                refine q_iload_n rfl rfl rfl ?_
                refine q_aload_n rfl rfl rfl ?_
                refine q_getf rfl rfl (by decide) rfl rfl ?_
                refine q_iload_n rfl rfl rfl ?_
                refine q_iald rfl rfl (by decide) (FW_54 S hW) (by decide) (q_tn (z := 0) rfl ?_)
                refine q_iast rfl rfl (by decide) rfl (by decide) ?_
                refine q_icc1 (z := 15) rfl rfl rfl rfl rfl ?_
                refine q_goto rfl ?_
                refine q_iload_n rfl rfl rfl ?_
                refine q_bipush rfl rfl ?_
                refine q_icge rfl rfl (fun c478 => absurd c478 (by decide)) (fun c478 => ?_)
                refine q_aload_n rfl rfl rfl ?_
                refine q_getf rfl rfl (by decide) rfl rfl ?_
                refine q_iload_n rfl rfl rfl ?_
                refine q_aload_n rfl rfl rfl ?_
                refine q_getf rfl rfl (by decide) rfl rfl ?_
                refine q_iload_n rfl rfl rfl ?_
                refine q_iald rfl rfl (by decide) (FW_54 S hW) (by decide) (q_tn (z := 0) rfl ?_)
                refine q_iast rfl rfl (by decide) rfl (by decide) ?_
                refine q_icc1 (z := 16) rfl rfl rfl rfl rfl ?_
                refine q_goto rfl ?_
                refine q_iload_n rfl rfl rfl ?_
                refine q_bipush rfl rfl ?_
                refine q_icge rfl rfl (fun c479 => absurd c479 (by decide)) (fun c479 => ?_)
                refine q_aload_n rfl rfl rfl ?_
                refine q_getf rfl rfl (by decide) rfl rfl ?_
                refine q_iload_n rfl rfl rfl ?_
                refine q_aload_n rfl rfl rfl ?_
                refine q_getf rfl rfl (by decide) rfl rfl ?_
                refine q_iload_n rfl rfl rfl ?_
                refine q_iald rfl rfl (by decide) (FW_54 S hW) (by decide) (q_tn (z := 0) rfl ?_)
                refine q_iast rfl rfl (by decide) rfl (by decide) ?_
                refine q_icc1 (z := 17) rfl rfl rfl rfl rfl ?_
                refine q_goto rfl ?_
                refine q_iload_n rfl rfl rfl ?_
                refine q_bipush rfl rfl ?_
                refine q_icge rfl rfl (fun c480 => absurd c480 (by decide)) (fun c480 => ?_)
                refine q_aload_n rfl rfl rfl ?_
                refine q_getf rfl rfl (by decide) rfl rfl ?_
                refine q_iload_n rfl rfl rfl ?_
                refine q_aload_n rfl rfl rfl ?_
                refine q_getf rfl rfl (by decide) rfl rfl ?_
                refine q_iload_n rfl rfl rfl ?_
                refine q_iald rfl rfl (by decide) (FW_54 S hW) (by decide) (q_tn (z := 0) rfl ?_)
                refine q_iast rfl rfl (by decide) rfl (by decide) ?_
                refine q_icc1 (z := 18) rfl rfl rfl rfl rfl ?_
                refine q_goto rfl ?_
                refine q_iload_n rfl rfl rfl ?_
                refine q_bipush rfl rfl ?_
                refine q_icge rfl rfl (fun c481 => absurd c481 (by decide)) (fun c481 => ?_)
                refine q_aload_n rfl rfl rfl ?_
                refine q_getf rfl rfl (by decide) rfl rfl ?_
                refine q_iload_n rfl rfl rfl ?_
                refine q_aload_n rfl rfl rfl ?_
                refine q_getf rfl rfl (by decide) rfl rfl ?_
                refine q_iload_n rfl rfl rfl ?_
                refine q_iald rfl rfl (by decide) (FW_54 S hW) (by decide) (q_tn (z := 0) rfl ?_)
                refine q_iast rfl rfl (by decide) rfl (by decide) ?_
                refine q_icc1 (z := 19) rfl rfl rfl rfl rfl ?_
                refine q_goto rfl ?_
                refine q_iload_n rfl rfl rfl ?_
                refine q_bipush rfl rfl ?_
                refine q_icge rfl rfl (fun c482 => absurd c482 (by decide)) (fun c482 => ?_)
                refine q_aload_n rfl rfl rfl ?_
                refine q_getf rfl rfl (by decide) rfl rfl ?_
                refine q_iload_n rfl rfl rfl ?_
                refine q_aload_n rfl rfl rfl ?_
                refine q_getf rfl rfl (by decide) rfl rfl ?_
                refine q_iload_n rfl rfl rfl ?_
                refine q_iald rfl rfl (by decide) (FW_54 S hW) (by decide) (q_tn (z := 0) rfl ?_)
                refine q_iast rfl rfl (by decide) rfl (by decide) ?_
                refine q_icc1 (z := 20) rfl rfl rfl rfl rfl ?_
                refine q_goto rfl ?_
                refine q_iload_n rfl rfl rfl ?_
                refine q_bipush rfl rfl ?_
                refine q_icge rfl rfl (fun c483 => ?_) (fun c483 => absurd (by decide) c483)
                refine q_ret rfl rfl ?_
                refine ⟨rfl, ?_⟩
                refine q_iload_n rfl rfl rfl ?_
                refine q_switch (q := 138) rfl rfl ?_
                refine q_aload_n rfl rfl rfl ?_
                refine q_getf rfl rfl (by decide) rfl rfl ?_
                refine q_iconst rfl rfl ?_
                refine q_iload_n rfl rfl rfl ?_
                refine q_imul rfl rfl (q_tn (z := 0) rfl ?_)
                refine q_iconst rfl rfl ?_
                refine q_iadd rfl rfl (q_tn (z := 3) rfl ?_)
                refine q_iald rfl rfl (by decide) (FW_54 S hW) (by decide) (q_tn (z := 0) rfl ?_)
                refine q_iret rfl rfl trivial ?_
                refine ⟨_, rfl, ?_⟩
                refine q_iceq rfl rfl (fun c484 => ?_) (fun c484 => absurd (by decide) c484)
                refine q_icc4 (z := 6) rfl rfl rfl rfl rfl ?_
                refine q_goto rfl ?_
                refine q_iload rfl rfl rfl ?_
                refine q_aload_nF rfl rfl rfl ?_
                refine q_alenX (x := 6) rfl rfl rfl ?_
                refine q_bipush rfl rfl ?_
                refine q_isub rfl rfl (q_tn (z := 0) rfl ?_)
                refine q_icgt rfl rfl (fun c485 => ?_) (fun c485 => absurd (by decide) c485)
                refine q_iconst rfl rfl ?_
                refine q_iret rfl rfl rfl ?_
                exact hK _ _
set_option maxHeartbeats 40000000 in
set_option maxRecDepth 20000 in
theorem t_op9 {S : Nat → pm_E} (hW : FW S) {x1 x2 x3 x4 x5 : Int32} (hx1 : xs 1 = x1) (hx2 : xs 2 = x2) (hx3 : xs 3 = x3) (hx4 : xs 4 = x4) (hx5 : xs 5 = x5) (hK : ∀ S n, K (some (.int 1)) S n) : PQ (j_SL 6) (j_SV xs) EX mm_L_law 469 [.float 5, .ref 0, .ref 46, .ref 81, .int 0, pm_un, pm_un, pm_un] [] S 82 82 190091 K := by
  refine q_aload_n rfl rfl rfl ?_
  refine q_aload_nF rfl rfl rfl ?_
  refine q_iload rfl rfl rfl ?_
  refine q_iconst rfl rfl ?_
  refine q_iadd rfl rfl (q_tn (z := 1) rfl ?_)
  refine q_ialdX (x := x1) rfl rfl rfl hx1 ?_
  refine q_nV1 rfl rfl (Or.inl rfl) rfl rfl rfl (by decide) (FW_0 S hW) ⟨rfl, rfl⟩ rfl ?_
  change PQ _ _ _ mm_X11_count 0 [.ref 0, .int x1, pm_un, pm_un] [] _ _ 0 0 _
  refine q_iload_n rfl rfl rfl ?_
  refine q_iconst rfl rfl ?_
  refine q_nS2 rfl rfl (Or.inl rfl) rfl rfl ⟨rfl, rfl⟩ rfl ?_
  change PQ _ _ _ mm_X11_within 0 [.int x1, .int 3] [] _ _ 0 0 _
  refine q_iload_n rfl rfl rfl ?_
  refine q_iflt rfl rfl (fun c1 => ?_) (fun c1 => ?_)
  · refine q_iconst rfl rfl ?_
    refine q_iret rfl rfl rfl ?_
    refine ⟨_, rfl, ?_⟩
    refine q_ifne rfl rfl (fun c2 => ?_) (fun c2 => absurd (by decide) c2)
    refine q_iconst rfl rfl ?_
    refine q_iret rfl rfl trivial ?_
    refine ⟨_, rfl, ?_⟩
    refine q_aload_n rfl rfl rfl ?_
    refine q_aload_nF rfl rfl rfl ?_
    refine q_iload rfl rfl rfl ?_
    refine q_iconst rfl rfl ?_
    refine q_iadd rfl rfl (q_tn (z := 1) rfl ?_)
    refine q_ialdX (x := x1) rfl rfl rfl hx1 ?_
    refine q_nV1 rfl rfl (Or.inl rfl) rfl rfl rfl (by decide) (FW_46 S hW) ⟨rfl, rfl⟩ rfl ?_
    change PQ _ _ _ mm_X12_count 0 [.ref 46, .int x1, pm_un, pm_un] [] _ _ 0 0 _
    refine q_aload_n rfl rfl rfl ?_
    refine q_iload_n rfl rfl rfl ?_
    refine q_iconst rfl rfl ?_
    refine q_iconst rfl rfl ?_
    refine q_nV3 rfl rfl (Or.inl rfl) rfl rfl rfl (by decide) (FW_46 S hW) ⟨rfl, rfl⟩ rfl ?_
    change PQ _ _ _ mm_X12_in 0 [.ref 46, .int x1, .int 0, .int 2] [] _ _ 0 0 _
    refine q_iload_n rfl rfl rfl ?_
    refine q_iload_n rfl rfl rfl ?_
    refine q_iclt rfl rfl (fun c3 => ?_) (fun c3 => absurd (i_lt_t (i_ltle c1 (B := (-1)) rfl) rfl) c3)
    refine q_iconst rfl rfl ?_
    refine q_iret rfl rfl rfl ?_
    refine ⟨_, rfl, ?_⟩
    refine q_ifne rfl rfl (fun c4 => ?_) (fun c4 => absurd (by decide) c4)
    refine q_iconst rfl rfl ?_
    refine q_iret rfl rfl trivial ?_
    refine ⟨_, rfl, ?_⟩
    refine q_iceq rfl rfl (fun c5 => ?_) (fun c5 => absurd (by decide) c5)
    refine q_icc4 (z := 6) rfl rfl rfl rfl rfl ?_
    refine q_goto rfl ?_
    refine q_iload rfl rfl rfl ?_
    refine q_aload_nF rfl rfl rfl ?_
    refine q_alenX (x := 6) rfl rfl rfl ?_
    refine q_bipush rfl rfl ?_
    refine q_isub rfl rfl (q_tn (z := 0) rfl ?_)
    refine q_icgt rfl rfl (fun c6 => ?_) (fun c6 => absurd (by decide) c6)
    refine q_iconst rfl rfl ?_
    refine q_iret rfl rfl rfl ?_
    exact hK _ _
  · refine q_iload_n rfl rfl rfl ?_
    refine q_iload_n rfl rfl rfl ?_
    refine q_icge rfl rfl (fun c7 => ?_) (fun c7 => ?_)
    · refine q_iconst rfl rfl ?_
      refine q_iret rfl rfl rfl ?_
      refine ⟨_, rfl, ?_⟩
      refine q_ifne rfl rfl (fun c8 => ?_) (fun c8 => absurd (by decide) c8)
      refine q_iconst rfl rfl ?_
      refine q_iret rfl rfl trivial ?_
      refine ⟨_, rfl, ?_⟩
      refine q_aload_n rfl rfl rfl ?_
      refine q_aload_nF rfl rfl rfl ?_
      refine q_iload rfl rfl rfl ?_
      refine q_iconst rfl rfl ?_
      refine q_iadd rfl rfl (q_tn (z := 1) rfl ?_)
      refine q_ialdX (x := x1) rfl rfl rfl hx1 ?_
      refine q_nV1 rfl rfl (Or.inl rfl) rfl rfl rfl (by decide) (FW_46 S hW) ⟨rfl, rfl⟩ rfl ?_
      change PQ _ _ _ mm_X12_count 0 [.ref 46, .int x1, pm_un, pm_un] [] _ _ 0 0 _
      refine q_aload_n rfl rfl rfl ?_
      refine q_iload_n rfl rfl rfl ?_
      refine q_iconst rfl rfl ?_
      refine q_iconst rfl rfl ?_
      refine q_nV3 rfl rfl (Or.inl rfl) rfl rfl rfl (by decide) (FW_46 S hW) ⟨rfl, rfl⟩ rfl ?_
      change PQ _ _ _ mm_X12_in 0 [.ref 46, .int x1, .int 0, .int 2] [] _ _ 0 0 _
      refine q_iload_n rfl rfl rfl ?_
      refine q_iload_n rfl rfl rfl ?_
      refine q_iclt rfl rfl (fun c9 => absurd c9 (i_lt_f c7 rfl)) (fun c9 => ?_)
      refine q_iload_n rfl rfl rfl ?_
      refine q_iload_n rfl rfl rfl ?_
      refine q_icgt rfl rfl (fun c10 => ?_) (fun c10 => absurd (i_gt_t c7 rfl) c10)
      refine q_iconst rfl rfl ?_
      refine q_iret rfl rfl rfl ?_
      refine ⟨_, rfl, ?_⟩
      refine q_ifne rfl rfl (fun c11 => ?_) (fun c11 => absurd (by decide) c11)
      refine q_iconst rfl rfl ?_
      refine q_iret rfl rfl trivial ?_
      refine ⟨_, rfl, ?_⟩
      refine q_iceq rfl rfl (fun c12 => ?_) (fun c12 => absurd (by decide) c12)
      refine q_icc4 (z := 6) rfl rfl rfl rfl rfl ?_
      refine q_goto rfl ?_
      refine q_iload rfl rfl rfl ?_
      refine q_aload_nF rfl rfl rfl ?_
      refine q_alenX (x := 6) rfl rfl rfl ?_
      refine q_bipush rfl rfl ?_
      refine q_isub rfl rfl (q_tn (z := 0) rfl ?_)
      refine q_icgt rfl rfl (fun c13 => ?_) (fun c13 => absurd (by decide) c13)
      refine q_iconst rfl rfl ?_
      refine q_iret rfl rfl rfl ?_
      exact hK _ _
    · refine q_iconst rfl rfl ?_
      refine q_goto rfl ?_
      refine q_iret rfl rfl rfl ?_
      refine ⟨_, rfl, ?_⟩
      refine q_ifne rfl rfl (fun c14 => absurd c14 (by decide)) (fun c14 => ?_)
      refine q_aload_n rfl rfl rfl ?_
      refine q_iconst rfl rfl ?_
      refine q_nV1 rfl rfl (Or.inl rfl) rfl rfl rfl (by decide) (FW_0 S hW) ⟨rfl, rfl⟩ rfl ?_
      change PQ _ _ _ mm_X11_sizeOf 0 [.ref 0, .int 0, pm_un] [] _ _ 0 0 _
      refine q_aload_n rfl rfl rfl ?_
      refine q_getf rfl rfl (by decide) (FW_0 S hW) rfl ?_
      refine q_iload_n rfl rfl rfl ?_
      refine q_iald rfl rfl (by decide) (FW_44 S hW) (by decide) (q_tn (z := 0) rfl ?_)
      refine q_ifne rfl rfl (fun c15 => ?_) (fun c15 => absurd (by decide) c15)
      refine q_iload_n rfl rfl rfl ?_
      refine q_ifne rfl rfl (fun c16 => ?_) (fun c16 => absurd (by decide) c16)
      refine q_aload_n rfl rfl rfl ?_
      refine q_getf rfl rfl (by decide) (FW_0 S hW) rfl ?_
      refine q_goto rfl ?_
      refine q_ast2n rfl rfl rfl rfl ?_
      refine q_aload_n rfl rfl rfl ?_
      refine q_getf rfl rfl (by decide) (FW_0 S hW) rfl ?_
      refine q_iload_n rfl rfl rfl ?_
      refine q_putf rfl rfl (by decide) (FW_7 S hW) (by decide) rfl trivial ?_
      refine q_aload_n rfl rfl rfl ?_
      refine q_aload_n rfl rfl rfl ?_
      refine q_getf rfl rfl (by decide) (FW_0 S hW) rfl ?_
      refine q_iconst rfl rfl ?_
      refine q_nV2v rfl rfl (Or.inl rfl) rfl rfl rfl (by decide) (FW_8 S hW) ⟨rfl, rfl⟩ rfl ?_
      change PQ _ _ _ mm_X7_explore 0 [.ref 8, .ref 7, .int 0, pm_un] [] _ _ 0 0 _
      refine q_aload_n rfl rfl rfl ?_
      refine q_nV0v rfl rfl (Or.inl rfl) rfl rfl rfl (by decide) (FW_8 S hW) ⟨rfl, rfl⟩ rfl ?_
      change PQ _ _ _ mm_X7_clear 0 [.ref 8, pm_un] [] _ _ 0 0 _
      refine q_iconst rfl rfl ?_
      refine q_ist1n rfl rfl rfl rfl ?_
      refine q_iload_n rfl rfl rfl ?_
      refine q_aload_n rfl rfl rfl ?_
      refine q_getf rfl rfl (by decide) (FW_8 S hW) rfl ?_
      refine q_icge rfl rfl (fun c17 => ?_) (fun c17 => absurd (by decide) c17)
      refine q_aload_n rfl rfl rfl ?_
      refine q_iconst rfl rfl ?_
      refine q_putf rfl rfl (by decide) (FW_8 S hW) (by decide) rfl trivial ?_
      refine q_aload_n rfl rfl rfl ?_
      refine q_iconst rfl rfl ?_
      refine q_putf rfl rfl (by decide) rfl (by decide) rfl rfl ?_
      refine q_aload_n rfl rfl rfl ?_
      refine q_iconst rfl rfl ?_
      refine q_putf rfl rfl (by decide) rfl (by decide) rfl rfl ?_
      refine q_aload_n rfl rfl rfl ?_
      refine q_lconst rfl rfl ?_
      refine q_putf rfl rfl (by decide) rfl (by decide) rfl trivial ?_
      refine q_ret rfl rfl ?_
      refine ⟨rfl, ?_⟩
      refine q_aload_n rfl rfl rfl ?_
      refine q_aload_n rfl rfl rfl ?_
      refine q_nV0 rfl rfl (Or.inl rfl) rfl rfl rfl (by decide) rfl ⟨rfl, rfl⟩ rfl ?_
      change PQ _ _ _ mm_X6_first 0 [.ref 7, pm_un, pm_un, pm_un] [] _ _ 0 0 _
      refine q_lconst rfl rfl ?_
      refine q_lst1n rfl rfl rfl rfl ?_
      refine q_iconst rfl rfl ?_
      refine q_ist3n rfl rfl rfl rfl ?_
      refine q_iload_n rfl rfl rfl ?_
      refine q_iconst rfl rfl ?_
      refine q_icge rfl rfl (fun c18 => absurd c18 (by decide)) (fun c18 => ?_)
      refine q_lload_n rfl rfl rfl ?_
      refine q_iload_n rfl rfl rfl ?_
      refine q_aload_n rfl rfl rfl ?_
      refine q_getf rfl rfl (by decide) rfl rfl ?_
      refine q_getf rfl rfl (by decide) (FW_1 S hW) rfl ?_
      refine q_iload_n rfl rfl rfl ?_
      refine q_iald rfl rfl (by decide) (FW_2 S hW) (by decide) (q_tn (z := 0) rfl ?_)
      refine q_nS3 rfl rfl (Or.inl rfl) rfl rfl ⟨rfl, rfl⟩ rfl ?_
      change PQ _ _ _ mm_X0_withPlace 0 [.long 0, pm_un, .int 0, .int 0, pm_un] [] _ _ 0 0 _
      refine q_bipush rfl rfl ?_
      refine q_iconst rfl rfl ?_
      refine q_iload_n rfl rfl rfl ?_
      refine q_imul rfl rfl (q_tn (z := 0) rfl ?_)
      refine q_iadd rfl rfl (q_tn (z := 36) rfl ?_)
      refine q_ist4 rfl rfl rfl rfl ?_
      refine q_lload_n rfl rfl rfl ?_
      refine q_ldc2 rfl rfl ?_
      refine q_iload rfl rfl rfl ?_
      refine q_lshl rfl rfl (q_tnl (z := 1030792151040) rfl ?_)
      refine q_ldc2 rfl rfl ?_
      refine q_lxor rfl rfl (q_tnl (z := (-1030792151041)) rfl ?_)
      refine q_land rfl rfl (q_tnl (z := 0) rfl ?_)
      refine q_iload_n rfl rfl rfl ?_
      refine q_i2l rfl rfl (q_tnl (z := 0) rfl ?_)
      refine q_iload rfl rfl rfl ?_
      refine q_lshl rfl rfl (q_tnl (z := 0) rfl ?_)
      refine q_lor rfl rfl (q_tnl (z := 0) rfl ?_)
      refine q_lret rfl rfl trivial ?_
      refine ⟨_, rfl, ?_⟩
      refine q_lst1n rfl rfl rfl rfl ?_
      refine q_icc3 (z := 1) rfl rfl rfl rfl rfl ?_
      refine q_goto rfl ?_
      refine q_iload_n rfl rfl rfl ?_
      refine q_iconst rfl rfl ?_
      refine q_icge rfl rfl (fun c19 => absurd c19 (by decide)) (fun c19 => ?_)
      refine q_lload_n rfl rfl rfl ?_
      refine q_iload_n rfl rfl rfl ?_
      refine q_aload_n rfl rfl rfl ?_
      refine q_getf rfl rfl (by decide) rfl rfl ?_
      refine q_getf rfl rfl (by decide) (FW_1 S hW) rfl ?_
      refine q_iload_n rfl rfl rfl ?_
      refine q_iald rfl rfl (by decide) (FW_2 S hW) (by decide) (q_tn (z := 0) rfl ?_)
      refine q_nS3 rfl rfl (Or.inl rfl) rfl rfl ⟨rfl, rfl⟩ rfl ?_
      change PQ _ _ _ mm_X0_withPlace 0 [.long 0, pm_un, .int 1, .int 0, pm_un] [] _ _ 0 0 _
      refine q_bipush rfl rfl ?_
      refine q_iconst rfl rfl ?_
      refine q_iload_n rfl rfl rfl ?_
      refine q_imul rfl rfl (q_tn (z := 4) rfl ?_)
      refine q_iadd rfl rfl (q_tn (z := 40) rfl ?_)
      refine q_ist4 rfl rfl rfl rfl ?_
      refine q_lload_n rfl rfl rfl ?_
      refine q_ldc2 rfl rfl ?_
      refine q_iload rfl rfl rfl ?_
      refine q_lshl rfl rfl (q_tnl (z := 16492674416640) rfl ?_)
      refine q_ldc2 rfl rfl ?_
      refine q_lxor rfl rfl (q_tnl (z := (-16492674416641)) rfl ?_)
      refine q_land rfl rfl (q_tnl (z := 0) rfl ?_)
      refine q_iload_n rfl rfl rfl ?_
      refine q_i2l rfl rfl (q_tnl (z := 0) rfl ?_)
      refine q_iload rfl rfl rfl ?_
      refine q_lshl rfl rfl (q_tnl (z := 0) rfl ?_)
      refine q_lor rfl rfl (q_tnl (z := 0) rfl ?_)
      refine q_lret rfl rfl trivial ?_
      refine ⟨_, rfl, ?_⟩
      refine q_lst1n rfl rfl rfl rfl ?_
      refine q_icc3 (z := 2) rfl rfl rfl rfl rfl ?_
      refine q_goto rfl ?_
      refine q_iload_n rfl rfl rfl ?_
      refine q_iconst rfl rfl ?_
      refine q_icge rfl rfl (fun c20 => absurd c20 (by decide)) (fun c20 => ?_)
      refine q_lload_n rfl rfl rfl ?_
      refine q_iload_n rfl rfl rfl ?_
      refine q_aload_n rfl rfl rfl ?_
      refine q_getf rfl rfl (by decide) rfl rfl ?_
      refine q_getf rfl rfl (by decide) (FW_1 S hW) rfl ?_
      refine q_iload_n rfl rfl rfl ?_
      refine q_iald rfl rfl (by decide) (FW_2 S hW) (by decide) (q_tn (z := 0) rfl ?_)
      refine q_nS3 rfl rfl (Or.inl rfl) rfl rfl ⟨rfl, rfl⟩ rfl ?_
      change PQ _ _ _ mm_X0_withPlace 0 [.long 0, pm_un, .int 2, .int 0, pm_un] [] _ _ 0 0 _
      refine q_bipush rfl rfl ?_
      refine q_iconst rfl rfl ?_
      refine q_iload_n rfl rfl rfl ?_
      refine q_imul rfl rfl (q_tn (z := 8) rfl ?_)
      refine q_iadd rfl rfl (q_tn (z := 44) rfl ?_)
      refine q_ist4 rfl rfl rfl rfl ?_
      refine q_lload_n rfl rfl rfl ?_
      refine q_ldc2 rfl rfl ?_
      refine q_iload rfl rfl rfl ?_
      refine q_lshl rfl rfl (q_tnl (z := 263882790666240) rfl ?_)
      refine q_ldc2 rfl rfl ?_
      refine q_lxor rfl rfl (q_tnl (z := (-263882790666241)) rfl ?_)
      refine q_land rfl rfl (q_tnl (z := 0) rfl ?_)
      refine q_iload_n rfl rfl rfl ?_
      refine q_i2l rfl rfl (q_tnl (z := 0) rfl ?_)
      refine q_iload rfl rfl rfl ?_
      refine q_lshl rfl rfl (q_tnl (z := 0) rfl ?_)
      refine q_lor rfl rfl (q_tnl (z := 0) rfl ?_)
      refine q_lret rfl rfl trivial ?_
      refine ⟨_, rfl, ?_⟩
      refine q_lst1n rfl rfl rfl rfl ?_
      refine q_icc3 (z := 3) rfl rfl rfl rfl rfl ?_
      refine q_goto rfl ?_
      refine q_iload_n rfl rfl rfl ?_
      refine q_iconst rfl rfl ?_
      refine q_icge rfl rfl (fun c21 => absurd c21 (by decide)) (fun c21 => ?_)
      refine q_lload_n rfl rfl rfl ?_
      refine q_iload_n rfl rfl rfl ?_
      refine q_aload_n rfl rfl rfl ?_
      refine q_getf rfl rfl (by decide) rfl rfl ?_
      refine q_getf rfl rfl (by decide) (FW_1 S hW) rfl ?_
      refine q_iload_n rfl rfl rfl ?_
      refine q_iald rfl rfl (by decide) (FW_2 S hW) (by decide) (q_tn (z := 0) rfl ?_)
      refine q_nS3 rfl rfl (Or.inl rfl) rfl rfl ⟨rfl, rfl⟩ rfl ?_
      change PQ _ _ _ mm_X0_withPlace 0 [.long 0, pm_un, .int 3, .int 0, pm_un] [] _ _ 0 0 _
      refine q_bipush rfl rfl ?_
      refine q_iconst rfl rfl ?_
      refine q_iload_n rfl rfl rfl ?_
      refine q_imul rfl rfl (q_tn (z := 12) rfl ?_)
      refine q_iadd rfl rfl (q_tn (z := 48) rfl ?_)
      refine q_ist4 rfl rfl rfl rfl ?_
      refine q_lload_n rfl rfl rfl ?_
      refine q_ldc2 rfl rfl ?_
      refine q_iload rfl rfl rfl ?_
      refine q_lshl rfl rfl (q_tnl (z := 4222124650659840) rfl ?_)
      refine q_ldc2 rfl rfl ?_
      refine q_lxor rfl rfl (q_tnl (z := (-4222124650659841)) rfl ?_)
      refine q_land rfl rfl (q_tnl (z := 0) rfl ?_)
      refine q_iload_n rfl rfl rfl ?_
      refine q_i2l rfl rfl (q_tnl (z := 0) rfl ?_)
      refine q_iload rfl rfl rfl ?_
      refine q_lshl rfl rfl (q_tnl (z := 0) rfl ?_)
      refine q_lor rfl rfl (q_tnl (z := 0) rfl ?_)
      refine q_lret rfl rfl trivial ?_
      refine ⟨_, rfl, ?_⟩
      refine q_lst1n rfl rfl rfl rfl ?_
      refine q_icc3 (z := 4) rfl rfl rfl rfl rfl ?_
      refine q_goto rfl ?_
      refine q_iload_n rfl rfl rfl ?_
      refine q_iconst rfl rfl ?_
      refine q_icge rfl rfl (fun c22 => ?_) (fun c22 => absurd (by decide) c22)
      refine q_lload_n rfl rfl rfl ?_
      refine q_lret rfl rfl trivial ?_
      refine ⟨_, rfl, ?_⟩
      refine q_iconst rfl rfl ?_
      refine q_iconst rfl rfl ?_
      refine q_nV3 rfl rfl (Or.inl rfl) rfl rfl rfl (by decide) rfl ⟨rfl, rfl⟩ rfl ?_
      change PQ _ _ _ mm_X7_numberOf 0 [.ref 8, .long 0, pm_un, .int (-1), .int (-1), pm_un, pm_un, pm_un] [] _ _ 0 0 _
      refine q_lload_n rfl rfl rfl ?_
      refine q_ldc2 rfl rfl ?_
      refine q_lmul rfl rfl (q_tnl (z := 0) rfl ?_)
      refine q_bipush rfl rfl ?_
      refine q_lushr rfl rfl (q_tnl (z := 0) rfl ?_)
      refine q_l2i rfl rfl (q_tn (z := 0) rfl ?_)
      refine q_sipush rfl rfl ?_
      refine q_iand rfl rfl (q_tn (z := 0) rfl ?_)
      refine q_ist5 rfl rfl rfl rfl ?_
      refine q_iconst rfl rfl ?_
      refine q_ist6 rfl rfl rfl rfl ?_
      refine q_iload rfl rfl rfl ?_
      refine q_sipush rfl rfl ?_
      refine q_icge rfl rfl (fun c23 => absurd c23 (by decide)) (fun c23 => ?_)
      refine q_aload_n rfl rfl rfl ?_
      refine q_getf rfl rfl (by decide) rfl rfl ?_
      refine q_iload rfl rfl rfl ?_
      refine q_iald rfl rfl (by decide) (FW_14 S hW) (by decide) (q_tn (z := 0) rfl ?_)
      refine q_iconst rfl rfl ?_
      refine q_isub rfl rfl (q_tn (z := (-1)) rfl ?_)
      refine q_ist7 rfl rfl rfl rfl ?_
      refine q_iload rfl rfl rfl ?_
      refine q_ifge rfl rfl (fun c24 => absurd c24 (by decide)) (fun c24 => ?_)
      refine q_aload_n rfl rfl rfl ?_
      refine q_lload_n rfl rfl rfl ?_
      refine q_iload rfl rfl rfl ?_
      refine q_iload_n rfl rfl rfl ?_
      refine q_iload rfl rfl rfl ?_
      refine q_nV4 rfl rfl (Or.inl rfl) rfl rfl rfl (by decide) rfl ⟨rfl, rfl⟩ rfl ?_
      change PQ _ _ _ mm_X7_newNumber 0 [.ref 8, .long 0, pm_un, .int 0, .int (-1), .int (-1), pm_un] [] _ _ 0 0 _
      refine q_aload_n rfl rfl rfl ?_
      refine q_getf rfl rfl (by decide) rfl rfl ?_
      refine q_sipush rfl rfl ?_
      refine q_iclt rfl rfl (fun c25 => ?_) (fun c25 => absurd (by decide) c25)
      refine q_aload_n rfl rfl rfl ?_
      refine q_dupr rfl rfl ?_
      refine q_getf rfl rfl (by decide) rfl rfl ?_
      refine q_dupx1 rfl rfl ?_
      refine q_iconst rfl rfl ?_
      refine q_iadd rfl rfl (q_tn (z := 1) rfl ?_)
      refine q_putf rfl rfl (by decide) rfl (by decide) rfl trivial ?_
      refine q_ist6 rfl rfl rfl rfl ?_
      refine q_aload_n rfl rfl rfl ?_
      refine q_getf rfl rfl (by decide) rfl rfl ?_
      refine q_iload rfl rfl rfl ?_
      refine q_lload_n rfl rfl rfl ?_
      refine q_last rfl rfl (by decide) (FW_9 S hW) (by decide) ?_
      refine q_aload_n rfl rfl rfl ?_
      refine q_getf rfl rfl (by decide) rfl rfl ?_
      refine q_iload rfl rfl rfl ?_
      refine q_iload rfl rfl rfl ?_
      refine q_iast rfl rfl (by decide) (FW_10 S hW) (by decide) ?_
      refine q_aload_n rfl rfl rfl ?_
      refine q_getf rfl rfl (by decide) rfl rfl ?_
      refine q_iload rfl rfl rfl ?_
      refine q_iload rfl rfl rfl ?_
      refine q_iast rfl rfl (by decide) (FW_11 S hW) (by decide) ?_
      refine q_aload_n rfl rfl rfl ?_
      refine q_getf rfl rfl (by decide) rfl rfl ?_
      refine q_iload rfl rfl rfl ?_
      refine q_iload_n rfl rfl rfl ?_
      refine q_iast rfl rfl (by decide) (FW_15 S hW) (by decide) ?_
      refine q_aload_n rfl rfl rfl ?_
      refine q_getf rfl rfl (by decide) rfl rfl ?_
      refine q_iload_n rfl rfl rfl ?_
      refine q_iload rfl rfl rfl ?_
      refine q_iconst rfl rfl ?_
      refine q_iadd rfl rfl (q_tn (z := 1) rfl ?_)
      refine q_iast rfl rfl (by decide) (FW_14 S hW) (by decide) ?_
      refine q_iload rfl rfl rfl ?_
      refine q_iret rfl rfl trivial ?_
      refine ⟨_, rfl, ?_⟩
      refine q_iret rfl rfl trivial ?_
      refine ⟨_, rfl, ?_⟩
      refine q_pop rfl rfl ?_
      refine q_iconst rfl rfl ?_
      refine q_ist3n rfl rfl rfl rfl ?_
      refine q_iload_n rfl rfl rfl ?_
      refine q_sipush rfl rfl ?_
      refine q_icge rfl rfl (fun c26 => absurd c26 (by decide)) (fun c26 => ?_)
      refine q_iload_n rfl rfl rfl ?_
      refine q_aload_n rfl rfl rfl ?_
      refine q_getf rfl rfl (by decide) rfl rfl ?_
      refine q_icge rfl rfl (fun c27 => absurd c27 (by decide)) (fun c27 => ?_)
      refine q_aload_n rfl rfl rfl ?_
      refine q_aload_n rfl rfl rfl ?_
      refine q_iload_n rfl rfl rfl ?_
      refine q_nV2v rfl rfl (Or.inl rfl) rfl rfl rfl (by decide) rfl ⟨rfl, rfl⟩ rfl ?_
      change PQ _ _ _ mm_X7_lookAt 0 [.ref 8, .ref 7, .int 0, pm_un, pm_un, pm_un, pm_un, pm_un, pm_un, pm_un] [] _ _ 0 0 _
      refine q_aload_n rfl rfl rfl ?_
      refine q_getf rfl rfl (by decide) rfl rfl ?_
      refine q_iload_n rfl rfl rfl ?_
      refine q_lald rfl rfl (by decide) rfl (by decide) (q_tnl (z := 0) rfl ?_)
      refine q_lst3n rfl rfl rfl rfl ?_
      refine q_aload_n rfl rfl rfl ?_
      refine q_aload_n rfl rfl rfl ?_
      refine q_lload_n rfl rfl rfl ?_
      refine q_nV1 rfl rfl (Or.inl rfl) rfl rfl rfl (by decide) rfl ⟨rfl, rfl⟩ rfl ?_
      change PQ _ _ _ mm_X6_ableHands 0 [.ref 7, .long 0, pm_un, pm_un, pm_un, pm_un] [] _ _ 0 0 _
      refine q_aload_n rfl rfl rfl ?_
      refine q_lload_n rfl rfl rfl ?_
      refine q_nV1 rfl rfl (Or.inl rfl) rfl rfl rfl (by decide) rfl ⟨rfl, rfl⟩ rfl ?_
      change PQ _ _ _ mm_X6_allMeet 0 [.ref 7, .long 0, pm_un, pm_un, pm_un] [] _ _ 0 0 _
      refine q_iconst rfl rfl ?_
      refine q_ist3n rfl rfl rfl rfl ?_
      refine q_iload_n rfl rfl rfl ?_
      refine q_aload_n rfl rfl rfl ?_
      refine q_getf rfl rfl (by decide) rfl rfl ?_
      refine q_getf rfl rfl (by decide) (FW_1 S hW) rfl ?_
      refine q_icge rfl rfl (fun c28 => absurd c28 (by decide)) (fun c28 => ?_)
      refine q_aload_n rfl rfl rfl ?_
      refine q_getf rfl rfl (by decide) rfl rfl ?_
      refine q_iload_n rfl rfl rfl ?_
      refine q_lload_n rfl rfl rfl ?_
      refine q_iload_n rfl rfl rfl ?_
      refine q_nS2 rfl rfl (Or.inl rfl) rfl rfl ⟨rfl, rfl⟩ rfl ?_
      change PQ _ _ _ mm_X0_position 0 [.long 0, pm_un, .int 0] [] _ _ 0 0 _
      refine q_lload_n rfl rfl rfl ?_
      refine q_bipush rfl rfl ?_
      refine q_iload_n rfl rfl rfl ?_
      refine q_imul rfl rfl (q_tn (z := 0) rfl ?_)
      refine q_lushr rfl rfl (q_tnl (z := 0) rfl ?_)
      refine q_l2i rfl rfl (q_tn (z := 0) rfl ?_)
      refine q_bipush rfl rfl ?_
      refine q_iand rfl rfl (q_tn (z := 0) rfl ?_)
      refine q_iret rfl rfl trivial ?_
      refine ⟨_, rfl, ?_⟩
      refine q_nV2 rfl rfl (Or.inl rfl) rfl rfl rfl (by decide) (FW_1 S hW) ⟨rfl, rfl⟩ rfl ?_
      change PQ _ _ _ mm_X8_cellOf 0 [.ref 1, .int 0, .int 0, pm_un] [] _ _ 0 0 _
      refine q_iload_n rfl rfl rfl ?_
      refine q_iflt rfl rfl (fun c29 => absurd c29 (by decide)) (fun c29 => ?_)
      refine q_iload_n rfl rfl rfl ?_
      refine q_aload_n rfl rfl rfl ?_
      refine q_getf rfl rfl (by decide) (FW_1 S hW) rfl ?_
      refine q_icge rfl rfl (fun c30 => absurd c30 (by decide)) (fun c30 => ?_)
      refine q_iload_n rfl rfl rfl ?_
      refine q_iflt rfl rfl (fun c31 => absurd c31 (by decide)) (fun c31 => ?_)
      refine q_iload_n rfl rfl rfl ?_
      refine q_aload_n rfl rfl rfl ?_
      refine q_getf rfl rfl (by decide) (FW_1 S hW) rfl ?_
      refine q_iload_n rfl rfl rfl ?_
      refine q_iald rfl rfl (by decide) (FW_3 S hW) (by decide) (q_tn (z := 0) rfl ?_)
      refine q_icge rfl rfl (fun c32 => ?_) (fun c32 => absurd (by decide) c32)
      refine q_iconst rfl rfl ?_
      refine q_ist3n rfl rfl rfl rfl ?_
      refine q_iload_n rfl rfl rfl ?_
      refine q_ifeq rfl rfl (fun c33 => ?_) (fun c33 => absurd (by decide) c33)
      refine q_iconst rfl rfl ?_
      refine q_iret rfl rfl trivial ?_
      refine ⟨_, rfl, ?_⟩
      refine q_ist4 rfl rfl rfl rfl ?_
      refine q_iload rfl rfl rfl ?_
      refine q_iflt rfl rfl (fun c34 => ?_) (fun c34 => absurd (by decide) c34)
      refine q_icc3 (z := 1) rfl rfl rfl rfl rfl ?_
      refine q_goto rfl ?_
      refine q_iload_n rfl rfl rfl ?_
      refine q_aload_n rfl rfl rfl ?_
      refine q_getf rfl rfl (by decide) rfl rfl ?_
      refine q_getf rfl rfl (by decide) (FW_1 S hW) rfl ?_
      refine q_icge rfl rfl (fun c35 => ?_) (fun c35 => absurd (by decide) c35)
      refine q_iconst rfl rfl ?_
      refine q_iret rfl rfl rfl ?_
      refine ⟨_, rfl, ?_⟩
      refine q_ist3n rfl rfl rfl rfl ?_
      refine q_iconst rfl rfl ?_
      refine q_ist4 rfl rfl rfl rfl ?_
      refine q_iconst rfl rfl ?_
      refine q_ist5 rfl rfl rfl rfl ?_
      refine q_iload rfl rfl rfl ?_
      refine q_aload_n rfl rfl rfl ?_
      refine q_getf rfl rfl (by decide) rfl rfl ?_
      refine q_getf rfl rfl (by decide) (FW_1 S hW) rfl ?_
      refine q_icge rfl rfl (fun c36 => absurd c36 (by decide)) (fun c36 => ?_)
      refine q_aload_n rfl rfl rfl ?_
      refine q_lload_n rfl rfl rfl ?_
      refine q_iload rfl rfl rfl ?_
      refine q_iload_n rfl rfl rfl ?_
      refine q_nV3 rfl rfl (Or.inl rfl) rfl rfl rfl (by decide) rfl ⟨rfl, rfl⟩ rfl ?_
      change PQ _ _ _ mm_X6_isAble 0 [.ref 7, .long 0, pm_un, .int 0, .int 1, pm_un, pm_un, pm_un] [] _ _ 0 0 _
      refine q_aload_n rfl rfl rfl ?_
      refine q_getf rfl rfl (by decide) rfl rfl ?_
      refine q_iload_n rfl rfl rfl ?_
      refine q_lload_n rfl rfl rfl ?_
      refine q_iload_n rfl rfl rfl ?_
      refine q_nS2 rfl rfl (Or.inl rfl) rfl rfl ⟨rfl, rfl⟩ rfl ?_
      change PQ _ _ _ mm_X0_position 0 [.long 0, pm_un, .int 0] [] _ _ 0 0 _
      refine q_lload_n rfl rfl rfl ?_
      refine q_bipush rfl rfl ?_
      refine q_iload_n rfl rfl rfl ?_
      refine q_imul rfl rfl (q_tn (z := 0) rfl ?_)
      refine q_lushr rfl rfl (q_tnl (z := 0) rfl ?_)
      refine q_l2i rfl rfl (q_tn (z := 0) rfl ?_)
      refine q_bipush rfl rfl ?_
      refine q_iand rfl rfl (q_tn (z := 0) rfl ?_)
      refine q_iret rfl rfl trivial ?_
      refine ⟨_, rfl, ?_⟩
      refine q_nV2 rfl rfl (Or.inl rfl) rfl rfl rfl (by decide) (FW_1 S hW) ⟨rfl, rfl⟩ rfl ?_
      change PQ _ _ _ mm_X8_cellOf 0 [.ref 1, .int 0, .int 0, pm_un] [] _ _ 0 0 _
      refine q_iload_n rfl rfl rfl ?_
      refine q_iflt rfl rfl (fun c37 => absurd c37 (by decide)) (fun c37 => ?_)
      refine q_iload_n rfl rfl rfl ?_
      refine q_aload_n rfl rfl rfl ?_
      refine q_getf rfl rfl (by decide) (FW_1 S hW) rfl ?_
      refine q_icge rfl rfl (fun c38 => absurd c38 (by decide)) (fun c38 => ?_)
      refine q_iload_n rfl rfl rfl ?_
      refine q_iflt rfl rfl (fun c39 => absurd c39 (by decide)) (fun c39 => ?_)
      refine q_iload_n rfl rfl rfl ?_
      refine q_aload_n rfl rfl rfl ?_
      refine q_getf rfl rfl (by decide) (FW_1 S hW) rfl ?_
      refine q_iload_n rfl rfl rfl ?_
      refine q_iald rfl rfl (by decide) (FW_3 S hW) (by decide) (q_tn (z := 0) rfl ?_)
      refine q_icge rfl rfl (fun c40 => ?_) (fun c40 => absurd (by decide) c40)
      refine q_iconst rfl rfl ?_
      refine q_ist3n rfl rfl rfl rfl ?_
      refine q_iload_n rfl rfl rfl ?_
      refine q_ifeq rfl rfl (fun c41 => ?_) (fun c41 => absurd (by decide) c41)
      refine q_iconst rfl rfl ?_
      refine q_iret rfl rfl trivial ?_
      refine ⟨_, rfl, ?_⟩
      refine q_ist5 rfl rfl rfl rfl ?_
      refine q_iload rfl rfl rfl ?_
      refine q_ifge rfl rfl (fun c42 => absurd c42 (by decide)) (fun c42 => ?_)
      refine q_iconst rfl rfl ?_
      refine q_iret rfl rfl rfl ?_
      refine ⟨_, rfl, ?_⟩
      refine q_ifeq rfl rfl (fun c43 => ?_) (fun c43 => absurd (by decide) c43)
      refine q_icc5 (z := 1) rfl rfl rfl rfl rfl ?_
      refine q_goto rfl ?_
      refine q_iload rfl rfl rfl ?_
      refine q_aload_n rfl rfl rfl ?_
      refine q_getf rfl rfl (by decide) rfl rfl ?_
      refine q_getf rfl rfl (by decide) (FW_1 S hW) rfl ?_
      refine q_icge rfl rfl (fun c44 => ?_) (fun c44 => absurd (by decide) c44)
      refine q_iload rfl rfl rfl ?_
      refine q_iret rfl rfl trivial ?_
      refine ⟨_, rfl, ?_⟩
      refine q_lload_n rfl rfl rfl ?_
      refine q_nS1 rfl rfl (Or.inl rfl) rfl rfl ⟨rfl, rfl⟩ rfl ?_
      change PQ _ _ _ mm_X0_last 0 [.long 0, pm_un] [] _ _ 0 0 _
      refine q_lload_n rfl rfl rfl ?_
      refine q_bipush rfl rfl ?_
      refine q_lushr rfl rfl (q_tnl (z := 0) rfl ?_)
      refine q_l2i rfl rfl (q_tn (z := 0) rfl ?_)
      refine q_iconst rfl rfl ?_
      refine q_iand rfl rfl (q_tn (z := 0) rfl ?_)
      refine q_iconst rfl rfl ?_
      refine q_isub rfl rfl (q_tn (z := (-1)) rfl ?_)
      refine q_iret rfl rfl trivial ?_
      refine ⟨_, rfl, ?_⟩
      refine q_nV2 rfl rfl (Or.inl rfl) rfl rfl rfl (by decide) rfl ⟨rfl, rfl⟩ rfl ?_
      change PQ _ _ _ mm_X6_chosenHands 0 [.ref 7, .int 0, .int (-1), pm_un, pm_un] [] _ _ 0 0 _
      refine q_aload_n rfl rfl rfl ?_
      refine q_getf rfl rfl (by decide) rfl rfl ?_
      refine q_iconst rfl rfl ?_
      refine q_icne rfl rfl (fun c45 => absurd c45 (by decide)) (fun c45 => ?_)
      refine q_aload_n rfl rfl rfl ?_
      refine q_getf rfl rfl (by decide) rfl rfl ?_
      refine q_iconst rfl rfl ?_
      refine q_iceq rfl rfl (fun c46 => absurd c46 (by decide)) (fun c46 => ?_)
      refine q_iload_n rfl rfl rfl ?_
      refine q_iret rfl rfl trivial ?_
      refine ⟨_, rfl, ?_⟩
      refine q_ist5 rfl rfl rfl rfl ?_
      refine q_iconst rfl rfl ?_
      refine q_ist6 rfl rfl rfl rfl ?_
      refine q_iload rfl rfl rfl ?_
      refine q_iconst rfl rfl ?_
      refine q_icge rfl rfl (fun c47 => absurd c47 (by decide)) (fun c47 => ?_)
      refine q_iconst rfl rfl ?_
      refine q_ist7 rfl rfl rfl rfl ?_
      refine q_iload rfl rfl rfl ?_
      refine q_iload rfl rfl rfl ?_
      refine q_iushr rfl rfl (q_tn (z := 0) rfl ?_)
      refine q_iconst rfl rfl ?_
      refine q_iand rfl rfl (q_tn (z := 0) rfl ?_)
      refine q_ifeq rfl rfl (fun c48 => ?_) (fun c48 => absurd (by decide) c48)
      refine q_aload_n rfl rfl rfl ?_
      refine q_getf rfl rfl (by decide) rfl rfl ?_
      refine q_iload_n rfl rfl rfl ?_
      refine q_iconst rfl rfl ?_
      refine q_imul rfl rfl (q_tn (z := 0) rfl ?_)
      refine q_iload rfl rfl rfl ?_
      refine q_iadd rfl rfl (q_tn (z := 0) rfl ?_)
      refine q_iload rfl rfl rfl ?_
      refine q_iast rfl rfl (by decide) (FW_13 S hW) (by decide) ?_
      refine q_icc6 (z := 1) rfl rfl rfl rfl rfl ?_
      refine q_goto rfl ?_
      refine q_iload rfl rfl rfl ?_
      refine q_iconst rfl rfl ?_
      refine q_icge rfl rfl (fun c49 => absurd c49 (by decide)) (fun c49 => ?_)
      refine q_iconst rfl rfl ?_
      refine q_ist7 rfl rfl rfl rfl ?_
      refine q_iload rfl rfl rfl ?_
      refine q_iload rfl rfl rfl ?_
      refine q_iushr rfl rfl (q_tn (z := 0) rfl ?_)
      refine q_iconst rfl rfl ?_
      refine q_iand rfl rfl (q_tn (z := 0) rfl ?_)
      refine q_ifeq rfl rfl (fun c50 => ?_) (fun c50 => absurd (by decide) c50)
      refine q_aload_n rfl rfl rfl ?_
      refine q_getf rfl rfl (by decide) rfl rfl ?_
      refine q_iload_n rfl rfl rfl ?_
      refine q_iconst rfl rfl ?_
      refine q_imul rfl rfl (q_tn (z := 0) rfl ?_)
      refine q_iload rfl rfl rfl ?_
      refine q_iadd rfl rfl (q_tn (z := 1) rfl ?_)
      refine q_iload rfl rfl rfl ?_
      refine q_iast rfl rfl (by decide) rfl (by decide) ?_
      refine q_icc6 (z := 2) rfl rfl rfl rfl rfl ?_
      refine q_goto rfl ?_
      refine q_iload rfl rfl rfl ?_
      refine q_iconst rfl rfl ?_
      refine q_icge rfl rfl (fun c51 => absurd c51 (by decide)) (fun c51 => ?_)
      refine q_iconst rfl rfl ?_
      refine q_ist7 rfl rfl rfl rfl ?_
      refine q_iload rfl rfl rfl ?_
      refine q_iload rfl rfl rfl ?_
      refine q_iushr rfl rfl (q_tn (z := 0) rfl ?_)
      refine q_iconst rfl rfl ?_
      refine q_iand rfl rfl (q_tn (z := 0) rfl ?_)
      refine q_ifeq rfl rfl (fun c52 => ?_) (fun c52 => absurd (by decide) c52)
      refine q_aload_n rfl rfl rfl ?_
      refine q_getf rfl rfl (by decide) rfl rfl ?_
      refine q_iload_n rfl rfl rfl ?_
      refine q_iconst rfl rfl ?_
      refine q_imul rfl rfl (q_tn (z := 0) rfl ?_)
      refine q_iload rfl rfl rfl ?_
      refine q_iadd rfl rfl (q_tn (z := 2) rfl ?_)
      refine q_iload rfl rfl rfl ?_
      refine q_iast rfl rfl (by decide) rfl (by decide) ?_
      refine q_icc6 (z := 3) rfl rfl rfl rfl rfl ?_
      refine q_goto rfl ?_
      refine q_iload rfl rfl rfl ?_
      refine q_iconst rfl rfl ?_
      refine q_icge rfl rfl (fun c53 => ?_) (fun c53 => absurd (by decide) c53)
      refine q_aload_n rfl rfl rfl ?_
      refine q_getf rfl rfl (by decide) rfl rfl ?_
      refine q_iload_n rfl rfl rfl ?_
      refine q_iload rfl rfl rfl ?_
      refine q_ifeq rfl rfl (fun c54 => ?_) (fun c54 => absurd (by decide) c54)
      refine q_aload_n rfl rfl rfl ?_
      refine q_lload_n rfl rfl rfl ?_
      refine q_nV1 rfl rfl (Or.inl rfl) rfl rfl rfl (by decide) rfl ⟨rfl, rfl⟩ rfl ?_
      change PQ _ _ _ mm_X6_isEnd 0 [.ref 7, .long 0, pm_un, pm_un] [] _ _ 0 0 _
      refine q_iconst rfl rfl ?_
      refine q_ist3n rfl rfl rfl rfl ?_
      refine q_iload_n rfl rfl rfl ?_
      refine q_aload_n rfl rfl rfl ?_
      refine q_getf rfl rfl (by decide) rfl rfl ?_
      refine q_getf rfl rfl (by decide) (FW_1 S hW) rfl ?_
      refine q_icge rfl rfl (fun c55 => absurd c55 (by decide)) (fun c55 => ?_)
      refine q_aload_n rfl rfl rfl ?_
      refine q_getf rfl rfl (by decide) rfl rfl ?_
      refine q_iload_n rfl rfl rfl ?_
      refine q_lload_n rfl rfl rfl ?_
      refine q_iload_n rfl rfl rfl ?_
      refine q_nS2 rfl rfl (Or.inl rfl) rfl rfl ⟨rfl, rfl⟩ rfl ?_
      change PQ _ _ _ mm_X0_position 0 [.long 0, pm_un, .int 0] [] _ _ 0 0 _
      refine q_lload_n rfl rfl rfl ?_
      refine q_bipush rfl rfl ?_
      refine q_iload_n rfl rfl rfl ?_
      refine q_imul rfl rfl (q_tn (z := 0) rfl ?_)
      refine q_lushr rfl rfl (q_tnl (z := 0) rfl ?_)
      refine q_l2i rfl rfl (q_tn (z := 0) rfl ?_)
      refine q_bipush rfl rfl ?_
      refine q_iand rfl rfl (q_tn (z := 0) rfl ?_)
      refine q_iret rfl rfl trivial ?_
      refine ⟨_, rfl, ?_⟩
      refine q_nV2 rfl rfl (Or.inl rfl) rfl rfl rfl (by decide) (FW_1 S hW) ⟨rfl, rfl⟩ rfl ?_
      change PQ _ _ _ mm_X8_cellOf 0 [.ref 1, .int 0, .int 0, pm_un] [] _ _ 0 0 _
      refine q_iload_n rfl rfl rfl ?_
      refine q_iflt rfl rfl (fun c56 => absurd c56 (by decide)) (fun c56 => ?_)
      refine q_iload_n rfl rfl rfl ?_
      refine q_aload_n rfl rfl rfl ?_
      refine q_getf rfl rfl (by decide) (FW_1 S hW) rfl ?_
      refine q_icge rfl rfl (fun c57 => absurd c57 (by decide)) (fun c57 => ?_)
      refine q_iload_n rfl rfl rfl ?_
      refine q_iflt rfl rfl (fun c58 => absurd c58 (by decide)) (fun c58 => ?_)
      refine q_iload_n rfl rfl rfl ?_
      refine q_aload_n rfl rfl rfl ?_
      refine q_getf rfl rfl (by decide) (FW_1 S hW) rfl ?_
      refine q_iload_n rfl rfl rfl ?_
      refine q_iald rfl rfl (by decide) (FW_3 S hW) (by decide) (q_tn (z := 0) rfl ?_)
      refine q_icge rfl rfl (fun c59 => ?_) (fun c59 => absurd (by decide) c59)
      refine q_iconst rfl rfl ?_
      refine q_ist3n rfl rfl rfl rfl ?_
      refine q_iload_n rfl rfl rfl ?_
      refine q_ifeq rfl rfl (fun c60 => ?_) (fun c60 => absurd (by decide) c60)
      refine q_iconst rfl rfl ?_
      refine q_iret rfl rfl trivial ?_
      refine ⟨_, rfl, ?_⟩
      refine q_iflt rfl rfl (fun c61 => ?_) (fun c61 => absurd (by decide) c61)
      refine q_icc3 (z := 1) rfl rfl rfl rfl rfl ?_
      refine q_goto rfl ?_
      refine q_iload_n rfl rfl rfl ?_
      refine q_aload_n rfl rfl rfl ?_
      refine q_getf rfl rfl (by decide) rfl rfl ?_
      refine q_getf rfl rfl (by decide) (FW_1 S hW) rfl ?_
      refine q_icge rfl rfl (fun c62 => ?_) (fun c62 => absurd (by decide) c62)
      refine q_iconst rfl rfl ?_
      refine q_iret rfl rfl rfl ?_
      refine ⟨_, rfl, ?_⟩
      refine q_ifeq rfl rfl (fun c63 => absurd c63 (by decide)) (fun c63 => ?_)
      refine q_iconst rfl rfl ?_
      refine q_goto rfl ?_
      refine q_iast rfl rfl (by decide) (FW_12 S hW) (by decide) ?_
      refine q_aload_n rfl rfl rfl ?_
      refine q_dupr rfl rfl ?_
      refine q_getf rfl rfl (by decide) rfl rfl ?_
      refine q_aload_n rfl rfl rfl ?_
      refine q_getf rfl rfl (by decide) rfl rfl ?_
      refine q_iload_n rfl rfl rfl ?_
      refine q_iald rfl rfl (by decide) rfl (by decide) (q_tn (z := 1) rfl ?_)
      refine q_iconst rfl rfl ?_
      refine q_iceq rfl rfl (fun c64 => absurd c64 (by decide)) (fun c64 => ?_)
      refine q_aload_n rfl rfl rfl ?_
      refine q_lload_n rfl rfl rfl ?_
      refine q_nV1 rfl rfl (Or.inl rfl) rfl rfl rfl (by decide) rfl ⟨rfl, rfl⟩ rfl ?_
      change PQ _ _ _ mm_X6_someFailed 0 [.ref 7, .long 0, pm_un, pm_un] [] _ _ 0 0 _
      refine q_iconst rfl rfl ?_
      refine q_ist3n rfl rfl rfl rfl ?_
      refine q_iload_n rfl rfl rfl ?_
      refine q_aload_n rfl rfl rfl ?_
      refine q_getf rfl rfl (by decide) rfl rfl ?_
      refine q_getf rfl rfl (by decide) (FW_1 S hW) rfl ?_
      refine q_icge rfl rfl (fun c65 => absurd c65 (by decide)) (fun c65 => ?_)
      refine q_lload_n rfl rfl rfl ?_
      refine q_iload_n rfl rfl rfl ?_
      refine q_nS2 rfl rfl (Or.inl rfl) rfl rfl ⟨rfl, rfl⟩ rfl ?_
      change PQ _ _ _ mm_X0_position 0 [.long 0, pm_un, .int 0] [] _ _ 0 0 _
      refine q_lload_n rfl rfl rfl ?_
      refine q_bipush rfl rfl ?_
      refine q_iload_n rfl rfl rfl ?_
      refine q_imul rfl rfl (q_tn (z := 0) rfl ?_)
      refine q_lushr rfl rfl (q_tnl (z := 0) rfl ?_)
      refine q_l2i rfl rfl (q_tn (z := 0) rfl ?_)
      refine q_bipush rfl rfl ?_
      refine q_iand rfl rfl (q_tn (z := 0) rfl ?_)
      refine q_iret rfl rfl trivial ?_
      refine ⟨_, rfl, ?_⟩
      refine q_bipush rfl rfl ?_
      refine q_icne rfl rfl (fun c66 => absurd c66 (by decide)) (fun c66 => ?_)
      refine q_icc3 (z := 1) rfl rfl rfl rfl rfl ?_
      refine q_goto rfl ?_
      refine q_iload_n rfl rfl rfl ?_
      refine q_aload_n rfl rfl rfl ?_
      refine q_getf rfl rfl (by decide) rfl rfl ?_
      refine q_getf rfl rfl (by decide) (FW_1 S hW) rfl ?_
      refine q_icge rfl rfl (fun c67 => ?_) (fun c67 => absurd (by decide) c67)
      refine q_iconst rfl rfl ?_
      refine q_iret rfl rfl rfl ?_
      refine ⟨_, rfl, ?_⟩
      refine q_ifeq rfl rfl (fun c68 => ?_) (fun c68 => absurd (by decide) c68)
      refine q_iconst rfl rfl ?_
      refine q_ior rfl rfl (q_tn (z := 0) rfl ?_)
      refine q_putf rfl rfl (by decide) rfl (by decide) rfl rfl ?_
      refine q_aload_n rfl rfl rfl ?_
      refine q_getf rfl rfl (by decide) rfl rfl ?_
      refine q_iload_n rfl rfl rfl ?_
      refine q_iald rfl rfl (by decide) rfl (by decide) (q_tn (z := 1) rfl ?_)
      refine q_iconst rfl rfl ?_
      refine q_icne rfl rfl (fun c69 => ?_) (fun c69 => absurd (by decide) c69)
      refine q_aload_n rfl rfl rfl ?_
      refine q_lload_n rfl rfl rfl ?_
      refine q_nV1v rfl rfl (Or.inl rfl) rfl rfl rfl (by decide) rfl ⟨rfl, rfl⟩ rfl ?_
      change PQ _ _ _ mm_X7_noteEnd 0 [.ref 8, .long 0, pm_un, pm_un] [] _ _ 0 0 _
      refine q_iconst rfl rfl ?_
      refine q_ist3n rfl rfl rfl rfl ?_
      refine q_iload_n rfl rfl rfl ?_
      refine q_iconst rfl rfl ?_
      refine q_icge rfl rfl (fun c70 => absurd c70 (by decide)) (fun c70 => ?_)
      refine q_aload_n rfl rfl rfl ?_
      refine q_dupr rfl rfl ?_
      refine q_getf rfl rfl (by decide) rfl rfl ?_
      refine q_lconst rfl rfl ?_
      refine q_bipush rfl rfl ?_
      refine q_iload_n rfl rfl rfl ?_
      refine q_imul rfl rfl (q_tn (z := 0) rfl ?_)
      refine q_lload_n rfl rfl rfl ?_
      refine q_iload_n rfl rfl rfl ?_
      refine q_nS2 rfl rfl (Or.inl rfl) rfl rfl ⟨rfl, rfl⟩ rfl ?_
      change PQ _ _ _ mm_X0_place 0 [.long 0, pm_un, .int 0] [] _ _ 0 0 _
      refine q_lload_n rfl rfl rfl ?_
      refine q_bipush rfl rfl ?_
      refine q_iconst rfl rfl ?_
      refine q_iload_n rfl rfl rfl ?_
      refine q_imul rfl rfl (q_tn (z := 0) rfl ?_)
      refine q_iadd rfl rfl (q_tn (z := 36) rfl ?_)
      refine q_lushr rfl rfl (q_tnl (z := 0) rfl ?_)
      refine q_l2i rfl rfl (q_tn (z := 0) rfl ?_)
      refine q_bipush rfl rfl ?_
      refine q_iand rfl rfl (q_tn (z := 0) rfl ?_)
      refine q_iret rfl rfl trivial ?_
      refine ⟨_, rfl, ?_⟩
      refine q_iadd rfl rfl (q_tn (z := 0) rfl ?_)
      refine q_lshl rfl rfl (q_tnl (z := 1) rfl ?_)
      refine q_lor rfl rfl (q_tnl (z := 1) rfl ?_)
      refine q_putf rfl rfl (by decide) rfl (by decide) rfl trivial ?_
      refine q_icc3 (z := 1) rfl rfl rfl rfl rfl ?_
      refine q_goto rfl ?_
      refine q_iload_n rfl rfl rfl ?_
      refine q_iconst rfl rfl ?_
      refine q_icge rfl rfl (fun c71 => absurd c71 (by decide)) (fun c71 => ?_)
      refine q_aload_n rfl rfl rfl ?_
      refine q_dupr rfl rfl ?_
      refine q_getf rfl rfl (by decide) rfl rfl ?_
      refine q_lconst rfl rfl ?_
      refine q_bipush rfl rfl ?_
      refine q_iload_n rfl rfl rfl ?_
      refine q_imul rfl rfl (q_tn (z := 10) rfl ?_)
      refine q_lload_n rfl rfl rfl ?_
      refine q_iload_n rfl rfl rfl ?_
      refine q_nS2 rfl rfl (Or.inl rfl) rfl rfl ⟨rfl, rfl⟩ rfl ?_
      change PQ _ _ _ mm_X0_place 0 [.long 0, pm_un, .int 1] [] _ _ 0 0 _
      refine q_lload_n rfl rfl rfl ?_
      refine q_bipush rfl rfl ?_
      refine q_iconst rfl rfl ?_
      refine q_iload_n rfl rfl rfl ?_
      refine q_imul rfl rfl (q_tn (z := 4) rfl ?_)
      refine q_iadd rfl rfl (q_tn (z := 40) rfl ?_)
      refine q_lushr rfl rfl (q_tnl (z := 0) rfl ?_)
      refine q_l2i rfl rfl (q_tn (z := 0) rfl ?_)
      refine q_bipush rfl rfl ?_
      refine q_iand rfl rfl (q_tn (z := 0) rfl ?_)
      refine q_iret rfl rfl trivial ?_
      refine ⟨_, rfl, ?_⟩
      refine q_iadd rfl rfl (q_tn (z := 10) rfl ?_)
      refine q_lshl rfl rfl (q_tnl (z := 1024) rfl ?_)
      refine q_lor rfl rfl (q_tnl (z := 1025) rfl ?_)
      refine q_putf rfl rfl (by decide) rfl (by decide) rfl trivial ?_
      refine q_icc3 (z := 2) rfl rfl rfl rfl rfl ?_
      refine q_goto rfl ?_
      refine q_iload_n rfl rfl rfl ?_
      refine q_iconst rfl rfl ?_
      refine q_icge rfl rfl (fun c72 => absurd c72 (by decide)) (fun c72 => ?_)
      refine q_aload_n rfl rfl rfl ?_
      refine q_dupr rfl rfl ?_
      refine q_getf rfl rfl (by decide) rfl rfl ?_
      refine q_lconst rfl rfl ?_
      refine q_bipush rfl rfl ?_
      refine q_iload_n rfl rfl rfl ?_
      refine q_imul rfl rfl (q_tn (z := 20) rfl ?_)
      refine q_lload_n rfl rfl rfl ?_
      refine q_iload_n rfl rfl rfl ?_
      refine q_nS2 rfl rfl (Or.inl rfl) rfl rfl ⟨rfl, rfl⟩ rfl ?_
      change PQ _ _ _ mm_X0_place 0 [.long 0, pm_un, .int 2] [] _ _ 0 0 _
      refine q_lload_n rfl rfl rfl ?_
      refine q_bipush rfl rfl ?_
      refine q_iconst rfl rfl ?_
      refine q_iload_n rfl rfl rfl ?_
      refine q_imul rfl rfl (q_tn (z := 8) rfl ?_)
      refine q_iadd rfl rfl (q_tn (z := 44) rfl ?_)
      refine q_lushr rfl rfl (q_tnl (z := 0) rfl ?_)
      refine q_l2i rfl rfl (q_tn (z := 0) rfl ?_)
      refine q_bipush rfl rfl ?_
      refine q_iand rfl rfl (q_tn (z := 0) rfl ?_)
      refine q_iret rfl rfl trivial ?_
      refine ⟨_, rfl, ?_⟩
      refine q_iadd rfl rfl (q_tn (z := 20) rfl ?_)
      refine q_lshl rfl rfl (q_tnl (z := 1048576) rfl ?_)
      refine q_lor rfl rfl (q_tnl (z := 1049601) rfl ?_)
      refine q_putf rfl rfl (by decide) rfl (by decide) rfl trivial ?_
      refine q_icc3 (z := 3) rfl rfl rfl rfl rfl ?_
      refine q_goto rfl ?_
      refine q_iload_n rfl rfl rfl ?_
      refine q_iconst rfl rfl ?_
      refine q_icge rfl rfl (fun c73 => absurd c73 (by decide)) (fun c73 => ?_)
      refine q_aload_n rfl rfl rfl ?_
      refine q_dupr rfl rfl ?_
      refine q_getf rfl rfl (by decide) rfl rfl ?_
      refine q_lconst rfl rfl ?_
      refine q_bipush rfl rfl ?_
      refine q_iload_n rfl rfl rfl ?_
      refine q_imul rfl rfl (q_tn (z := 30) rfl ?_)
      refine q_lload_n rfl rfl rfl ?_
      refine q_iload_n rfl rfl rfl ?_
      refine q_nS2 rfl rfl (Or.inl rfl) rfl rfl ⟨rfl, rfl⟩ rfl ?_
      change PQ _ _ _ mm_X0_place 0 [.long 0, pm_un, .int 3] [] _ _ 0 0 _
      refine q_lload_n rfl rfl rfl ?_
      refine q_bipush rfl rfl ?_
      refine q_iconst rfl rfl ?_
      refine q_iload_n rfl rfl rfl ?_
      refine q_imul rfl rfl (q_tn (z := 12) rfl ?_)
      refine q_iadd rfl rfl (q_tn (z := 48) rfl ?_)
      refine q_lushr rfl rfl (q_tnl (z := 0) rfl ?_)
      refine q_l2i rfl rfl (q_tn (z := 0) rfl ?_)
      refine q_bipush rfl rfl ?_
      refine q_iand rfl rfl (q_tn (z := 0) rfl ?_)
      refine q_iret rfl rfl trivial ?_
      refine ⟨_, rfl, ?_⟩
      refine q_iadd rfl rfl (q_tn (z := 30) rfl ?_)
      refine q_lshl rfl rfl (q_tnl (z := 1073741824) rfl ?_)
      refine q_lor rfl rfl (q_tnl (z := 1074791425) rfl ?_)
      refine q_putf rfl rfl (by decide) rfl (by decide) rfl trivial ?_
      refine q_icc3 (z := 4) rfl rfl rfl rfl rfl ?_
      refine q_goto rfl ?_
      refine q_iload_n rfl rfl rfl ?_
      refine q_iconst rfl rfl ?_
      refine q_icge rfl rfl (fun c74 => ?_) (fun c74 => absurd (by decide) c74)
      refine q_ret rfl rfl ?_
      refine ⟨rfl, ?_⟩
      refine q_ret rfl rfl ?_
      refine ⟨rfl, ?_⟩
      refine q_aload_n rfl rfl rfl ?_
      refine q_getf rfl rfl (by decide) rfl rfl ?_
      refine q_ifne rfl rfl (fun c75 => ?_) (fun c75 => absurd (by decide) c75)
      refine q_iload_n rfl rfl rfl ?_
      refine q_ifeq rfl rfl (fun c76 => ?_) (fun c76 => absurd (by decide) c76)
      refine q_icc3 (z := 1) rfl rfl rfl rfl rfl ?_
      refine q_goto rfl ?_
      refine q_iload_n rfl rfl rfl ?_
      refine q_sipush rfl rfl ?_
      refine q_icge rfl rfl (fun c77 => absurd c77 (by decide)) (fun c77 => ?_)
      refine q_iload_n rfl rfl rfl ?_
      refine q_aload_n rfl rfl rfl ?_
      refine q_getf rfl rfl (by decide) rfl rfl ?_
      refine q_icge rfl rfl (fun c78 => ?_) (fun c78 => absurd (by decide) c78)
      refine q_ret rfl rfl ?_
      refine ⟨rfl, ?_⟩
      refine q_aload_n rfl rfl rfl ?_
      refine q_getf rfl rfl (by decide) (FW_0 S hW) rfl ?_
      refine q_iconst rfl rfl ?_
      refine q_putf rfl rfl (by decide) rfl (by decide) rfl trivial ?_
      refine q_aload_n rfl rfl rfl ?_
      refine q_getf rfl rfl (by decide) (FW_0 S hW) rfl ?_
      refine q_iload_n rfl rfl rfl ?_
      refine q_aload_n rfl rfl rfl ?_
      refine q_getf rfl rfl (by decide) rfl rfl ?_
      refine q_ifeq rfl rfl (fun c79 => ?_) (fun c79 => absurd (by decide) c79)
      refine q_aload_n rfl rfl rfl ?_
      refine q_getf rfl rfl (by decide) rfl rfl ?_
      refine q_iast rfl rfl (by decide) (FW_44 S hW) (by decide) ?_
      refine q_aload_n rfl rfl rfl ?_
      refine q_getf rfl rfl (by decide) (FW_0 S hW) rfl ?_
      refine q_iload_n rfl rfl rfl ?_
      refine q_aload_n rfl rfl rfl ?_
      refine q_getf rfl rfl (by decide) rfl rfl ?_
      refine q_last rfl rfl (by decide) (FW_45 S hW) (by decide) ?_
      refine q_aload_n rfl rfl rfl ?_
      refine q_getf rfl rfl (by decide) (FW_0 S hW) rfl ?_
      refine q_iload_n rfl rfl rfl ?_
      refine q_iald rfl rfl (by decide) rfl (by decide) (q_tn (z := 1) rfl ?_)
      refine q_iret rfl rfl trivial ?_
      refine ⟨_, rfl, ?_⟩
      refine q_bipush rfl rfl ?_
      refine q_icne rfl rfl (fun c80 => absurd c80 (by decide)) (fun c80 => ?_)
      refine q_iconst rfl rfl ?_
      refine q_ist2n rfl rfl rfl rfl ?_
      refine q_iconst rfl rfl ?_
      refine q_ist3n rfl rfl rfl rfl ?_
      refine q_iload_n rfl rfl rfl ?_
      refine q_aload_n rfl rfl rfl ?_
      refine q_getf rfl rfl (by decide) (FW_0 S hW) rfl ?_
      refine q_getf rfl rfl (by decide) rfl rfl ?_
      refine q_icge rfl rfl (fun c81 => absurd c81 (by decide)) (fun c81 => ?_)
      refine q_aload_n rfl rfl rfl ?_
      refine q_iload_n rfl rfl rfl ?_
      refine q_iload_n rfl rfl rfl ?_
      refine q_nV2 rfl rfl (Or.inl rfl) rfl rfl rfl (by decide) (FW_0 S hW) ⟨rfl, rfl⟩ rfl ?_
      change PQ _ _ _ mm_X11_isOfSort 0 [.ref 0, .int 0, .int x1] [] _ _ 0 0 _
      refine q_iload_n rfl rfl rfl ?_
      refine q_iconst rfl rfl ?_
      refine q_iceq rfl rfl (fun c82 => ?_) (fun c82 => ?_)
      · subst c82
        refine q_aload_n rfl rfl rfl ?_
        refine q_getf rfl rfl (by decide) (FW_0 S hW) rfl ?_
        refine q_ifne rfl rfl (fun c83 => ?_) (fun c83 => absurd (by decide) c83)
        refine q_aload_n rfl rfl rfl ?_
        refine q_getf rfl rfl (by decide) (FW_0 S hW) rfl ?_
        refine q_aload_n rfl rfl rfl ?_
        refine q_getf rfl rfl (by decide) (FW_0 S hW) rfl ?_
        refine q_nV1v rfl rfl (Or.inl rfl) rfl rfl rfl (by decide) (FW_24 S hW) ⟨rfl, rfl⟩ rfl ?_
        change PQ _ _ _ mm_X5_find 0 [.ref 24, .ref 8, pm_un, pm_un, pm_un] [] _ _ 0 0 _
        refine q_aload_n rfl rfl rfl ?_
        refine q_getf rfl rfl (by decide) (FW_24 S hW) rfl ?_
        refine q_iconst rfl rfl ?_
        refine q_cS2v rfl rfl (Or.inl rfl) rfl rfl ⟨rfl, rfl⟩ rfl (fun K' hK' => l_fill (by decide) (FW_25 S hW) (by decide) hK') ?_
        refine q_aload_n rfl rfl rfl ?_
        refine q_iconst rfl rfl ?_
        refine q_putf rfl rfl (by decide) (FW_24 S hW) (by decide) rfl trivial ?_
        refine q_aload_n rfl rfl rfl ?_
        refine q_iconst rfl rfl ?_
        refine q_putf rfl rfl (by decide) rfl (by decide) rfl trivial ?_
        refine q_aload_n rfl rfl rfl ?_
        refine q_iconst rfl rfl ?_
        refine q_putf rfl rfl (by decide) rfl (by decide) rfl trivial ?_
        refine q_aload_n rfl rfl rfl ?_
        refine q_iconst rfl rfl ?_
        refine q_nV1v rfl rfl (Or.inl rfl) rfl rfl rfl (by decide) rfl ⟨rfl, rfl⟩ rfl ?_
        change PQ _ _ _ mm_X5_arrive 0 [.ref 24, .int 0] [] _ _ 0 0 _
        refine q_aload_n rfl rfl rfl ?_
        refine q_getf rfl rfl (by decide) rfl rfl ?_
        refine q_sipush rfl rfl ?_
        refine q_icge rfl rfl (fun c84 => absurd c84 (by decide)) (fun c84 => ?_)
        refine q_aload_n rfl rfl rfl ?_
        refine q_getf rfl rfl (by decide) rfl rfl ?_
        refine q_sipush rfl rfl ?_
        refine q_iclt rfl rfl (fun c85 => ?_) (fun c85 => absurd (by decide) c85)
        refine q_aload_n rfl rfl rfl ?_
        refine q_dupr rfl rfl ?_
        refine q_getf rfl rfl (by decide) rfl rfl ?_
        refine q_iconst rfl rfl ?_
        refine q_iadd rfl rfl (q_tn (z := 1) rfl ?_)
        refine q_putf rfl rfl (by decide) rfl (by decide) rfl trivial ?_
        refine q_aload_n rfl rfl rfl ?_
        refine q_getf rfl rfl (by decide) rfl rfl ?_
        refine q_iload_n rfl rfl rfl ?_
        refine q_aload_n rfl rfl rfl ?_
        refine q_getf rfl rfl (by decide) rfl rfl ?_
        refine q_iast rfl rfl (by decide) rfl (by decide) ?_
        refine q_aload_n rfl rfl rfl ?_
        refine q_getf rfl rfl (by decide) rfl rfl ?_
        refine q_iload_n rfl rfl rfl ?_
        refine q_aload_n rfl rfl rfl ?_
        refine q_getf rfl rfl (by decide) rfl rfl ?_
        refine q_iast rfl rfl (by decide) (FW_26 S hW) (by decide) ?_
        refine q_aload_n rfl rfl rfl ?_
        refine q_getf rfl rfl (by decide) rfl rfl ?_
        refine q_iload_n rfl rfl rfl ?_
        refine q_iconst rfl rfl ?_
        refine q_iast rfl rfl (by decide) (FW_27 S hW) (by decide) ?_
        refine q_aload_n rfl rfl rfl ?_
        refine q_getf rfl rfl (by decide) rfl rfl ?_
        refine q_aload_n rfl rfl rfl ?_
        refine q_dupr rfl rfl ?_
        refine q_getf rfl rfl (by decide) rfl rfl ?_
        refine q_dupx1 rfl rfl ?_
        refine q_iconst rfl rfl ?_
        refine q_iadd rfl rfl (q_tn (z := 1) rfl ?_)
        refine q_putf rfl rfl (by decide) rfl (by decide) rfl trivial ?_
        refine q_iload_n rfl rfl rfl ?_
        refine q_iast rfl rfl (by decide) (FW_28 S hW) (by decide) ?_
        refine q_aload_n rfl rfl rfl ?_
        refine q_getf rfl rfl (by decide) rfl rfl ?_
        refine q_aload_n rfl rfl rfl ?_
        refine q_dupr rfl rfl ?_
        refine q_getf rfl rfl (by decide) rfl rfl ?_
        refine q_dupx1 rfl rfl ?_
        refine q_iconst rfl rfl ?_
        refine q_iadd rfl rfl (q_tn (z := 1) rfl ?_)
        refine q_putf rfl rfl (by decide) rfl (by decide) rfl trivial ?_
        refine q_iload_n rfl rfl rfl ?_
        refine q_iast rfl rfl (by decide) (FW_29 S hW) (by decide) ?_
        refine q_aload_n rfl rfl rfl ?_
        refine q_getf rfl rfl (by decide) rfl rfl ?_
        refine q_iload_n rfl rfl rfl ?_
        refine q_iconst rfl rfl ?_
        refine q_zast rfl rfl (by decide) (FW_30 S hW) (by decide) ?_
        refine q_aload_n rfl rfl rfl ?_
        refine q_getf rfl rfl (by decide) rfl rfl ?_
        refine q_iload_n rfl rfl rfl ?_
        refine q_iconst rfl rfl ?_
        refine q_zast rfl rfl (by decide) (FW_31 S hW) (by decide) ?_
        refine q_ret rfl rfl ?_
        refine ⟨rfl, ?_⟩
        refine q_sipush rfl rfl ?_
        refine q_ist2n rfl rfl rfl rfl ?_
        refine q_iconst rfl rfl ?_
        refine q_ist3n rfl rfl rfl rfl ?_
        refine q_iload_n rfl rfl rfl ?_
        refine q_iload_n rfl rfl rfl ?_
        refine q_icge rfl rfl (fun c86 => absurd c86 (by decide)) (fun c86 => ?_)
        refine q_aload_n rfl rfl rfl ?_
        refine q_getf rfl rfl (by decide) rfl rfl ?_
        refine q_ifle rfl rfl (fun c87 => absurd c87 (by decide)) (fun c87 => ?_)
        refine q_aload_n rfl rfl rfl ?_
        refine q_getf rfl rfl (by decide) rfl rfl ?_
        refine q_aload_n rfl rfl rfl ?_
        refine q_getf rfl rfl (by decide) rfl rfl ?_
        refine q_iconst rfl rfl ?_
        refine q_isub rfl rfl (q_tn (z := 0) rfl ?_)
        refine q_iald rfl rfl (by decide) rfl (by decide) (q_tn (z := 0) rfl ?_)
        refine q_ist4 rfl rfl rfl rfl ?_
        refine q_aload_n rfl rfl rfl ?_
        refine q_getf rfl rfl (by decide) rfl rfl ?_
        refine q_iload rfl rfl rfl ?_
        refine q_iald rfl rfl (by decide) rfl (by decide) (q_tn (z := 0) rfl ?_)
        refine q_iconst rfl rfl ?_
        refine q_icge rfl rfl (fun c88 => absurd c88 (by decide)) (fun c88 => ?_)
        refine q_aload_n rfl rfl rfl ?_
        refine q_iload rfl rfl rfl ?_
        refine q_aload_n rfl rfl rfl ?_
        refine q_iload rfl rfl rfl ?_
        refine q_aload_n rfl rfl rfl ?_
        refine q_getf rfl rfl (by decide) rfl rfl ?_
        refine q_iload rfl rfl rfl ?_
        refine q_dup2 rfl rfl ?_
        refine q_iald rfl rfl (by decide) rfl (by decide) (q_tn (z := 0) rfl ?_)
        refine q_dupx2 rfl rfl ?_
        refine q_iconst rfl rfl ?_
        refine q_iadd rfl rfl (q_tn (z := 1) rfl ?_)
        refine q_iast rfl rfl (by decide) rfl (by decide) ?_
        refine q_nV2 rfl rfl (Or.inl rfl) rfl rfl rfl (by decide) rfl ⟨rfl, rfl⟩ rfl ?_
        change PQ _ _ _ mm_X7_follower 0 [.ref 8, .int 0, .int 0] [] _ _ 0 0 _
        refine q_iload_n rfl rfl rfl ?_
        refine q_aload_n rfl rfl rfl ?_
        refine q_getf rfl rfl (by decide) rfl rfl ?_
        refine q_nS2 rfl rfl (Or.inr rfl) rfl rfl ⟨rfl, rfl⟩ rfl ?_
        change PQ _ _ _ mm_X11_within 0 [.int 0, .int 1] [] _ _ 0 0 _
        refine q_iload_n rfl rfl rfl ?_
        refine q_iflt rfl rfl (fun c89 => absurd c89 (by decide)) (fun c89 => ?_)
        refine q_iload_n rfl rfl rfl ?_
        refine q_iload_n rfl rfl rfl ?_
        refine q_icge rfl rfl (fun c90 => absurd c90 (by decide)) (fun c90 => ?_)
        refine q_iconst rfl rfl ?_
        refine q_goto rfl ?_
        refine q_iret rfl rfl rfl ?_
        refine ⟨_, rfl, ?_⟩
        refine q_ifeq rfl rfl (fun c91 => absurd c91 (by decide)) (fun c91 => ?_)
        refine q_iload_n rfl rfl rfl ?_
        refine q_iconst rfl rfl ?_
        refine q_nS2 rfl rfl (Or.inr rfl) rfl rfl ⟨rfl, rfl⟩ rfl ?_
        change PQ _ _ _ mm_X11_within 0 [.int 0, .int 3] [] _ _ 0 0 _
        refine q_iload_n rfl rfl rfl ?_
        refine q_iflt rfl rfl (fun c92 => absurd c92 (by decide)) (fun c92 => ?_)
        refine q_iload_n rfl rfl rfl ?_
        refine q_iload_n rfl rfl rfl ?_
        refine q_icge rfl rfl (fun c93 => absurd c93 (by decide)) (fun c93 => ?_)
        refine q_iconst rfl rfl ?_
        refine q_goto rfl ?_
        refine q_iret rfl rfl rfl ?_
        refine ⟨_, rfl, ?_⟩
        refine q_ifeq rfl rfl (fun c94 => absurd c94 (by decide)) (fun c94 => ?_)
        refine q_aload_n rfl rfl rfl ?_
        refine q_getf rfl rfl (by decide) rfl rfl ?_
        refine q_iload_n rfl rfl rfl ?_
        refine q_iconst rfl rfl ?_
        refine q_imul rfl rfl (q_tn (z := 0) rfl ?_)
        refine q_iload_n rfl rfl rfl ?_
        refine q_iadd rfl rfl (q_tn (z := 0) rfl ?_)
        refine q_iald rfl rfl (by decide) rfl (by decide) (q_tn (z := (-1)) rfl ?_)
        refine q_goto rfl ?_
        refine q_iret rfl rfl trivial ?_
        refine ⟨_, rfl, ?_⟩
        refine q_nV2v rfl rfl (Or.inl rfl) rfl rfl rfl (by decide) rfl ⟨rfl, rfl⟩ rfl ?_
        change PQ _ _ _ mm_X5_follow 0 [.ref 24, .int 0, .int (-1)] [] _ _ 0 0 _
        refine q_iload_n rfl rfl rfl ?_
        refine q_sipush rfl rfl ?_
        refine q_nS2 rfl rfl (Or.inr rfl) rfl rfl ⟨rfl, rfl⟩ rfl ?_
        change PQ _ _ _ mm_X11_within 0 [.int (-1), .int 2000] [] _ _ 0 0 _
        refine q_iload_n rfl rfl rfl ?_
        refine q_iflt rfl rfl (fun c95 => ?_) (fun c95 => absurd (by decide) c95)
        refine q_iconst rfl rfl ?_
        refine q_iret rfl rfl rfl ?_
        refine ⟨_, rfl, ?_⟩
        refine q_ifne rfl rfl (fun c96 => ?_) (fun c96 => absurd (by decide) c96)
        refine q_ret rfl rfl ?_
        refine ⟨rfl, ?_⟩
        refine q_goto rfl ?_
        refine q_icc3 (z := 1) rfl rfl rfl rfl rfl ?_
        refine q_goto rfl ?_
        refine q_iload_n rfl rfl rfl ?_
        refine q_iload_n rfl rfl rfl ?_
        refine q_icge rfl rfl (fun c97 => absurd c97 (by decide)) (fun c97 => ?_)
        refine q_aload_n rfl rfl rfl ?_
        refine q_getf rfl rfl (by decide) rfl rfl ?_
        refine q_ifle rfl rfl (fun c98 => absurd c98 (by decide)) (fun c98 => ?_)
        refine q_aload_n rfl rfl rfl ?_
        refine q_getf rfl rfl (by decide) rfl rfl ?_
        refine q_aload_n rfl rfl rfl ?_
        refine q_getf rfl rfl (by decide) rfl rfl ?_
        refine q_iconst rfl rfl ?_
        refine q_isub rfl rfl (q_tn (z := 0) rfl ?_)
        refine q_iald rfl rfl (by decide) rfl (by decide) (q_tn (z := 0) rfl ?_)
        refine q_ist4 rfl rfl rfl rfl ?_
        refine q_aload_n rfl rfl rfl ?_
        refine q_getf rfl rfl (by decide) rfl rfl ?_
        refine q_iload rfl rfl rfl ?_
        refine q_iald rfl rfl (by decide) rfl (by decide) (q_tn (z := 1) rfl ?_)
        refine q_iconst rfl rfl ?_
        refine q_icge rfl rfl (fun c99 => absurd c99 (by decide)) (fun c99 => ?_)
        refine q_aload_n rfl rfl rfl ?_
        refine q_iload rfl rfl rfl ?_
        refine q_aload_n rfl rfl rfl ?_
        refine q_iload rfl rfl rfl ?_
        refine q_aload_n rfl rfl rfl ?_
        refine q_getf rfl rfl (by decide) rfl rfl ?_
        refine q_iload rfl rfl rfl ?_
        refine q_dup2 rfl rfl ?_
        refine q_iald rfl rfl (by decide) rfl (by decide) (q_tn (z := 1) rfl ?_)
        refine q_dupx2 rfl rfl ?_
        refine q_iconst rfl rfl ?_
        refine q_iadd rfl rfl (q_tn (z := 2) rfl ?_)
        refine q_iast rfl rfl (by decide) rfl (by decide) ?_
        refine q_nV2 rfl rfl (Or.inl rfl) rfl rfl rfl (by decide) rfl ⟨rfl, rfl⟩ rfl ?_
        change PQ _ _ _ mm_X7_follower 0 [.ref 8, .int 0, .int 1] [] _ _ 0 0 _
        refine q_iload_n rfl rfl rfl ?_
        refine q_aload_n rfl rfl rfl ?_
        refine q_getf rfl rfl (by decide) rfl rfl ?_
        refine q_nS2 rfl rfl (Or.inr rfl) rfl rfl ⟨rfl, rfl⟩ rfl ?_
        change PQ _ _ _ mm_X11_within 0 [.int 0, .int 1] [] _ _ 0 0 _
        refine q_iload_n rfl rfl rfl ?_
        refine q_iflt rfl rfl (fun c100 => absurd c100 (by decide)) (fun c100 => ?_)
        refine q_iload_n rfl rfl rfl ?_
        refine q_iload_n rfl rfl rfl ?_
        refine q_icge rfl rfl (fun c101 => absurd c101 (by decide)) (fun c101 => ?_)
        refine q_iconst rfl rfl ?_
        refine q_goto rfl ?_
        refine q_iret rfl rfl rfl ?_
        refine ⟨_, rfl, ?_⟩
        refine q_ifeq rfl rfl (fun c102 => absurd c102 (by decide)) (fun c102 => ?_)
        refine q_iload_n rfl rfl rfl ?_
        refine q_iconst rfl rfl ?_
        refine q_nS2 rfl rfl (Or.inr rfl) rfl rfl ⟨rfl, rfl⟩ rfl ?_
        change PQ _ _ _ mm_X11_within 0 [.int 1, .int 3] [] _ _ 0 0 _
        refine q_iload_n rfl rfl rfl ?_
        refine q_iflt rfl rfl (fun c103 => absurd c103 (by decide)) (fun c103 => ?_)
        refine q_iload_n rfl rfl rfl ?_
        refine q_iload_n rfl rfl rfl ?_
        refine q_icge rfl rfl (fun c104 => absurd c104 (by decide)) (fun c104 => ?_)
        refine q_iconst rfl rfl ?_
        refine q_goto rfl ?_
        refine q_iret rfl rfl rfl ?_
        refine ⟨_, rfl, ?_⟩
        refine q_ifeq rfl rfl (fun c105 => absurd c105 (by decide)) (fun c105 => ?_)
        refine q_aload_n rfl rfl rfl ?_
        refine q_getf rfl rfl (by decide) rfl rfl ?_
        refine q_iload_n rfl rfl rfl ?_
        refine q_iconst rfl rfl ?_
        refine q_imul rfl rfl (q_tn (z := 0) rfl ?_)
        refine q_iload_n rfl rfl rfl ?_
        refine q_iadd rfl rfl (q_tn (z := 1) rfl ?_)
        refine q_iald rfl rfl (by decide) rfl (by decide) (q_tn (z := (-1)) rfl ?_)
        refine q_goto rfl ?_
        refine q_iret rfl rfl trivial ?_
        refine ⟨_, rfl, ?_⟩
        refine q_nV2v rfl rfl (Or.inl rfl) rfl rfl rfl (by decide) rfl ⟨rfl, rfl⟩ rfl ?_
        change PQ _ _ _ mm_X5_follow 0 [.ref 24, .int 0, .int (-1)] [] _ _ 0 0 _
        refine q_iload_n rfl rfl rfl ?_
        refine q_sipush rfl rfl ?_
        refine q_nS2 rfl rfl (Or.inr rfl) rfl rfl ⟨rfl, rfl⟩ rfl ?_
        change PQ _ _ _ mm_X11_within 0 [.int (-1), .int 2000] [] _ _ 0 0 _
        refine q_iload_n rfl rfl rfl ?_
        refine q_iflt rfl rfl (fun c106 => ?_) (fun c106 => absurd (by decide) c106)
        refine q_iconst rfl rfl ?_
        refine q_iret rfl rfl rfl ?_
        refine ⟨_, rfl, ?_⟩
        refine q_ifne rfl rfl (fun c107 => ?_) (fun c107 => absurd (by decide) c107)
        refine q_ret rfl rfl ?_
        refine ⟨rfl, ?_⟩
        refine q_goto rfl ?_
        refine q_icc3 (z := 2) rfl rfl rfl rfl rfl ?_
        refine q_goto rfl ?_
        refine q_iload_n rfl rfl rfl ?_
        refine q_iload_n rfl rfl rfl ?_
        refine q_icge rfl rfl (fun c108 => absurd c108 (by decide)) (fun c108 => ?_)
        refine q_aload_n rfl rfl rfl ?_
        refine q_getf rfl rfl (by decide) rfl rfl ?_
        refine q_ifle rfl rfl (fun c109 => absurd c109 (by decide)) (fun c109 => ?_)
        refine q_aload_n rfl rfl rfl ?_
        refine q_getf rfl rfl (by decide) rfl rfl ?_
        refine q_aload_n rfl rfl rfl ?_
        refine q_getf rfl rfl (by decide) rfl rfl ?_
        refine q_iconst rfl rfl ?_
        refine q_isub rfl rfl (q_tn (z := 0) rfl ?_)
        refine q_iald rfl rfl (by decide) rfl (by decide) (q_tn (z := 0) rfl ?_)
        refine q_ist4 rfl rfl rfl rfl ?_
        refine q_aload_n rfl rfl rfl ?_
        refine q_getf rfl rfl (by decide) rfl rfl ?_
        refine q_iload rfl rfl rfl ?_
        refine q_iald rfl rfl (by decide) rfl (by decide) (q_tn (z := 2) rfl ?_)
        refine q_iconst rfl rfl ?_
        refine q_icge rfl rfl (fun c110 => absurd c110 (by decide)) (fun c110 => ?_)
        refine q_aload_n rfl rfl rfl ?_
        refine q_iload rfl rfl rfl ?_
        refine q_aload_n rfl rfl rfl ?_
        refine q_iload rfl rfl rfl ?_
        refine q_aload_n rfl rfl rfl ?_
        refine q_getf rfl rfl (by decide) rfl rfl ?_
        refine q_iload rfl rfl rfl ?_
        refine q_dup2 rfl rfl ?_
        refine q_iald rfl rfl (by decide) rfl (by decide) (q_tn (z := 2) rfl ?_)
        refine q_dupx2 rfl rfl ?_
        refine q_iconst rfl rfl ?_
        refine q_iadd rfl rfl (q_tn (z := 3) rfl ?_)
        refine q_iast rfl rfl (by decide) rfl (by decide) ?_
        refine q_nV2 rfl rfl (Or.inl rfl) rfl rfl rfl (by decide) rfl ⟨rfl, rfl⟩ rfl ?_
        change PQ _ _ _ mm_X7_follower 0 [.ref 8, .int 0, .int 2] [] _ _ 0 0 _
        refine q_iload_n rfl rfl rfl ?_
        refine q_aload_n rfl rfl rfl ?_
        refine q_getf rfl rfl (by decide) rfl rfl ?_
        refine q_nS2 rfl rfl (Or.inr rfl) rfl rfl ⟨rfl, rfl⟩ rfl ?_
        change PQ _ _ _ mm_X11_within 0 [.int 0, .int 1] [] _ _ 0 0 _
        refine q_iload_n rfl rfl rfl ?_
        refine q_iflt rfl rfl (fun c111 => absurd c111 (by decide)) (fun c111 => ?_)
        refine q_iload_n rfl rfl rfl ?_
        refine q_iload_n rfl rfl rfl ?_
        refine q_icge rfl rfl (fun c112 => absurd c112 (by decide)) (fun c112 => ?_)
        refine q_iconst rfl rfl ?_
        refine q_goto rfl ?_
        refine q_iret rfl rfl rfl ?_
        refine ⟨_, rfl, ?_⟩
        refine q_ifeq rfl rfl (fun c113 => absurd c113 (by decide)) (fun c113 => ?_)
        refine q_iload_n rfl rfl rfl ?_
        refine q_iconst rfl rfl ?_
        refine q_nS2 rfl rfl (Or.inr rfl) rfl rfl ⟨rfl, rfl⟩ rfl ?_
        change PQ _ _ _ mm_X11_within 0 [.int 2, .int 3] [] _ _ 0 0 _
        refine q_iload_n rfl rfl rfl ?_
        refine q_iflt rfl rfl (fun c114 => absurd c114 (by decide)) (fun c114 => ?_)
        refine q_iload_n rfl rfl rfl ?_
        refine q_iload_n rfl rfl rfl ?_
        refine q_icge rfl rfl (fun c115 => absurd c115 (by decide)) (fun c115 => ?_)
        refine q_iconst rfl rfl ?_
        refine q_goto rfl ?_
        refine q_iret rfl rfl rfl ?_
        refine ⟨_, rfl, ?_⟩
        refine q_ifeq rfl rfl (fun c116 => absurd c116 (by decide)) (fun c116 => ?_)
        refine q_aload_n rfl rfl rfl ?_
        refine q_getf rfl rfl (by decide) rfl rfl ?_
        refine q_iload_n rfl rfl rfl ?_
        refine q_iconst rfl rfl ?_
        refine q_imul rfl rfl (q_tn (z := 0) rfl ?_)
        refine q_iload_n rfl rfl rfl ?_
        refine q_iadd rfl rfl (q_tn (z := 2) rfl ?_)
        refine q_iald rfl rfl (by decide) rfl (by decide) (q_tn (z := (-1)) rfl ?_)
        refine q_goto rfl ?_
        refine q_iret rfl rfl trivial ?_
        refine ⟨_, rfl, ?_⟩
        refine q_nV2v rfl rfl (Or.inl rfl) rfl rfl rfl (by decide) rfl ⟨rfl, rfl⟩ rfl ?_
        change PQ _ _ _ mm_X5_follow 0 [.ref 24, .int 0, .int (-1)] [] _ _ 0 0 _
        refine q_iload_n rfl rfl rfl ?_
        refine q_sipush rfl rfl ?_
        refine q_nS2 rfl rfl (Or.inr rfl) rfl rfl ⟨rfl, rfl⟩ rfl ?_
        change PQ _ _ _ mm_X11_within 0 [.int (-1), .int 2000] [] _ _ 0 0 _
        refine q_iload_n rfl rfl rfl ?_
        refine q_iflt rfl rfl (fun c117 => ?_) (fun c117 => absurd (by decide) c117)
        refine q_iconst rfl rfl ?_
        refine q_iret rfl rfl rfl ?_
        refine ⟨_, rfl, ?_⟩
        refine q_ifne rfl rfl (fun c118 => ?_) (fun c118 => absurd (by decide) c118)
        refine q_ret rfl rfl ?_
        refine ⟨rfl, ?_⟩
        refine q_goto rfl ?_
        refine q_icc3 (z := 3) rfl rfl rfl rfl rfl ?_
        refine q_goto rfl ?_
        refine q_iload_n rfl rfl rfl ?_
        refine q_iload_n rfl rfl rfl ?_
        refine q_icge rfl rfl (fun c119 => absurd c119 (by decide)) (fun c119 => ?_)
        refine q_aload_n rfl rfl rfl ?_
        refine q_getf rfl rfl (by decide) rfl rfl ?_
        refine q_ifle rfl rfl (fun c120 => absurd c120 (by decide)) (fun c120 => ?_)
        refine q_aload_n rfl rfl rfl ?_
        refine q_getf rfl rfl (by decide) rfl rfl ?_
        refine q_aload_n rfl rfl rfl ?_
        refine q_getf rfl rfl (by decide) rfl rfl ?_
        refine q_iconst rfl rfl ?_
        refine q_isub rfl rfl (q_tn (z := 0) rfl ?_)
        refine q_iald rfl rfl (by decide) rfl (by decide) (q_tn (z := 0) rfl ?_)
        refine q_ist4 rfl rfl rfl rfl ?_
        refine q_aload_n rfl rfl rfl ?_
        refine q_getf rfl rfl (by decide) rfl rfl ?_
        refine q_iload rfl rfl rfl ?_
        refine q_iald rfl rfl (by decide) rfl (by decide) (q_tn (z := 3) rfl ?_)
        refine q_iconst rfl rfl ?_
        refine q_icge rfl rfl (fun c121 => ?_) (fun c121 => absurd (by decide) c121)
        refine q_aload_n rfl rfl rfl ?_
        refine q_iload rfl rfl rfl ?_
        refine q_nV1v rfl rfl (Or.inl rfl) rfl rfl rfl (by decide) rfl ⟨rfl, rfl⟩ rfl ?_
        change PQ _ _ _ mm_X5_leaveBehind 0 [.ref 24, .int 0, pm_un] [] _ _ 0 0 _
        refine q_aload_n rfl rfl rfl ?_
        refine q_dupr rfl rfl ?_
        refine q_getf rfl rfl (by decide) rfl rfl ?_
        refine q_iconst rfl rfl ?_
        refine q_isub rfl rfl (q_tn (z := 0) rfl ?_)
        refine q_putf rfl rfl (by decide) rfl (by decide) rfl trivial ?_
        refine q_aload_n rfl rfl rfl ?_
        refine q_getf rfl rfl (by decide) rfl rfl ?_
        refine q_iload_n rfl rfl rfl ?_
        refine q_iald rfl rfl (by decide) rfl (by decide) (q_tn (z := 1) rfl ?_)
        refine q_aload_n rfl rfl rfl ?_
        refine q_getf rfl rfl (by decide) rfl rfl ?_
        refine q_iload_n rfl rfl rfl ?_
        refine q_iald rfl rfl (by decide) rfl (by decide) (q_tn (z := 1) rfl ?_)
        refine q_icne rfl rfl (fun c122 => ?_) (fun c122 => absurd (by decide) c122)
        refine q_aload_n rfl rfl rfl ?_
        refine q_iload_n rfl rfl rfl ?_
        refine q_nV1v rfl rfl (Or.inl rfl) rfl rfl rfl (by decide) rfl ⟨rfl, rfl⟩ rfl ?_
        change PQ _ _ _ mm_X5_closeComponent 0 [.ref 24, .int 0, pm_un, pm_un] [] _ _ 0 0 _
        refine q_aload_n rfl rfl rfl ?_
        refine q_getf rfl rfl (by decide) rfl rfl ?_
        refine q_ifle rfl rfl (fun c123 => absurd c123 (by decide)) (fun c123 => ?_)
        refine q_aload_n rfl rfl rfl ?_
        refine q_getf rfl rfl (by decide) rfl rfl ?_
        refine q_aload_n rfl rfl rfl ?_
        refine q_getf rfl rfl (by decide) rfl rfl ?_
        refine q_iconst rfl rfl ?_
        refine q_isub rfl rfl (q_tn (z := 0) rfl ?_)
        refine q_iald rfl rfl (by decide) rfl (by decide) (q_tn (z := 0) rfl ?_)
        refine q_iload_n rfl rfl rfl ?_
        refine q_iceq rfl rfl (fun c124 => ?_) (fun c124 => absurd (by decide) c124)
        refine q_iconst rfl rfl ?_
        refine q_ist2n rfl rfl rfl rfl ?_
        refine q_aload_n rfl rfl rfl ?_
        refine q_getf rfl rfl (by decide) rfl rfl ?_
        refine q_ifle rfl rfl (fun c125 => absurd c125 (by decide)) (fun c125 => ?_)
        refine q_aload_n rfl rfl rfl ?_
        refine q_getf rfl rfl (by decide) rfl rfl ?_
        refine q_aload_n rfl rfl rfl ?_
        refine q_dupr rfl rfl ?_
        refine q_getf rfl rfl (by decide) rfl rfl ?_
        refine q_iconst rfl rfl ?_
        refine q_isub rfl rfl (q_tn (z := 0) rfl ?_)
        refine q_dupx1 rfl rfl ?_
        refine q_putf rfl rfl (by decide) rfl (by decide) rfl trivial ?_
        refine q_iald rfl rfl (by decide) rfl (by decide) (q_tn (z := 0) rfl ?_)
        refine q_ist3n rfl rfl rfl rfl ?_
        refine q_aload_n rfl rfl rfl ?_
        refine q_getf rfl rfl (by decide) rfl rfl ?_
        refine q_iload_n rfl rfl rfl ?_
        refine q_iconst rfl rfl ?_
        refine q_zast rfl rfl (by decide) rfl (by decide) ?_
        refine q_aload_n rfl rfl rfl ?_
        refine q_getf rfl rfl (by decide) rfl rfl ?_
        refine q_iload_n rfl rfl rfl ?_
        refine q_dup2 rfl rfl ?_
        refine q_zald rfl rfl (by decide) rfl (by decide) (q_tn (z := 0) rfl ?_)
        refine q_iload_n rfl rfl rfl ?_
        refine q_ior rfl rfl (q_tn (z := 0) rfl ?_)
        refine q_zast rfl rfl (by decide) rfl (by decide) ?_
        refine q_iload_n rfl rfl rfl ?_
        refine q_iload_n rfl rfl rfl ?_
        refine q_icne rfl rfl (fun c126 => ?_) (fun c126 => absurd (by decide) c126)
        refine q_ret rfl rfl ?_
        refine ⟨rfl, ?_⟩
        refine q_aload_n rfl rfl rfl ?_
        refine q_getf rfl rfl (by decide) rfl rfl ?_
        refine q_ifle rfl rfl (fun c127 => ?_) (fun c127 => absurd (by decide) c127)
        refine q_ret rfl rfl ?_
        refine ⟨rfl, ?_⟩
        refine q_icc3 (z := 4) rfl rfl rfl rfl rfl ?_
        refine q_goto rfl ?_
        refine q_iload_n rfl rfl rfl ?_
        refine q_iload_n rfl rfl rfl ?_
        refine q_icge rfl rfl (fun c128 => absurd c128 (by decide)) (fun c128 => ?_)
        refine q_aload_n rfl rfl rfl ?_
        refine q_getf rfl rfl (by decide) rfl rfl ?_
        refine q_ifle rfl rfl (fun c129 => ?_) (fun c129 => absurd (by decide) c129)
        refine q_ret rfl rfl ?_
        refine ⟨rfl, ?_⟩
        refine q_aload_n rfl rfl rfl ?_
        refine q_iconst rfl rfl ?_
        refine q_putf rfl rfl (by decide) (FW_0 S hW) (by decide) rfl rfl ?_
        refine q_aload_n rfl rfl rfl ?_
        refine q_getf rfl rfl (by decide) rfl rfl ?_
        refine q_iload_n rfl rfl rfl ?_
        refine q_nV1 rfl rfl (Or.inl rfl) rfl rfl rfl (by decide) rfl ⟨rfl, rfl⟩ rfl ?_
        change PQ _ _ _ mm_X5_comesBack 0 [.ref 24, .int 0] [] _ _ 0 0 _
        refine q_iload_n rfl rfl rfl ?_
        refine q_sipush rfl rfl ?_
        refine q_nS2 rfl rfl (Or.inr rfl) rfl rfl ⟨rfl, rfl⟩ rfl ?_
        change PQ _ _ _ mm_X11_within 0 [.int 0, .int 2000] [] _ _ 0 0 _
        refine q_iload_n rfl rfl rfl ?_
        refine q_iflt rfl rfl (fun c130 => absurd c130 (by decide)) (fun c130 => ?_)
        refine q_iload_n rfl rfl rfl ?_
        refine q_iload_n rfl rfl rfl ?_
        refine q_icge rfl rfl (fun c131 => absurd c131 (by decide)) (fun c131 => ?_)
        refine q_iconst rfl rfl ?_
        refine q_goto rfl ?_
        refine q_iret rfl rfl rfl ?_
        refine ⟨_, rfl, ?_⟩
        refine q_ifeq rfl rfl (fun c132 => absurd c132 (by decide)) (fun c132 => ?_)
        refine q_aload_n rfl rfl rfl ?_
        refine q_getf rfl rfl (by decide) rfl rfl ?_
        refine q_iload_n rfl rfl rfl ?_
        refine q_zald rfl rfl (by decide) rfl (by decide) (q_tn (z := 0) rfl ?_)
        refine q_ifeq rfl rfl (fun c133 => ?_) (fun c133 => absurd (by decide) c133)
        refine q_iconst rfl rfl ?_
        refine q_iret rfl rfl rfl ?_
        refine ⟨_, rfl, ?_⟩
        refine q_iret rfl rfl rfl ?_
        refine ⟨_, rfl, ?_⟩
        refine q_ifeq rfl rfl (fun c134 => ?_) (fun c134 => absurd (by decide) c134)
        refine q_icc3 (z := 1) rfl rfl rfl rfl rfl ?_
        refine q_goto rfl ?_
        refine q_iload_n rfl rfl rfl ?_
        refine q_aload_n rfl rfl rfl ?_
        refine q_getf rfl rfl (by decide) rfl rfl ?_
        refine q_getf rfl rfl (by decide) rfl rfl ?_
        refine q_icge rfl rfl (fun c135 => ?_) (fun c135 => absurd (by decide) c135)
        refine q_iload_n rfl rfl rfl ?_
        refine q_iret rfl rfl trivial ?_
        refine ⟨_, rfl, ?_⟩
        refine q_aload_n rfl rfl rfl ?_
        refine q_aload_nF rfl rfl rfl ?_
        refine q_iload rfl rfl rfl ?_
        refine q_iconst rfl rfl ?_
        refine q_iadd rfl rfl (q_tn (z := 1) rfl ?_)
        refine q_ialdX (x := 2) rfl rfl rfl hx1 ?_
        refine q_nV1 rfl rfl (Or.inl rfl) rfl rfl rfl (by decide) (FW_46 S hW) ⟨rfl, rfl⟩ rfl ?_
        change PQ _ _ _ mm_X12_count 0 [.ref 46, .int 2, pm_un, pm_un] [] _ _ 0 0 _
        refine q_aload_n rfl rfl rfl ?_
        refine q_iload_n rfl rfl rfl ?_
        refine q_iconst rfl rfl ?_
        refine q_iconst rfl rfl ?_
        refine q_nV3 rfl rfl (Or.inl rfl) rfl rfl rfl (by decide) (FW_46 S hW) ⟨rfl, rfl⟩ rfl ?_
        change PQ _ _ _ mm_X12_in 0 [.ref 46, .int 2, .int 0, .int 2] [] _ _ 0 0 _
        refine q_iload_n rfl rfl rfl ?_
        refine q_iload_n rfl rfl rfl ?_
        refine q_iclt rfl rfl (fun c136 => absurd c136 (by decide)) (fun c136 => ?_)
        refine q_iload_n rfl rfl rfl ?_
        refine q_iload_n rfl rfl rfl ?_
        refine q_icgt rfl rfl (fun c137 => absurd c137 (by decide)) (fun c137 => ?_)
        refine q_iconst rfl rfl ?_
        refine q_goto rfl ?_
        refine q_iret rfl rfl rfl ?_
        refine ⟨_, rfl, ?_⟩
        refine q_ifne rfl rfl (fun c138 => absurd c138 (by decide)) (fun c138 => ?_)
        refine q_aload_n rfl rfl rfl ?_
        refine q_iconst rfl rfl ?_
        refine q_nV1 rfl rfl (Or.inl rfl) rfl rfl rfl (by decide) (FW_46 S hW) ⟨rfl, rfl⟩ rfl ?_
        change PQ _ _ _ mm_X12_isSpent 0 [.ref 46, .int 0, pm_un, pm_un, pm_un] [] _ _ 0 0 _
        refine q_iload_n rfl rfl rfl ?_
        refine q_ifne rfl rfl (fun c139 => ?_) (fun c139 => absurd (by decide) c139)
        refine q_iconst rfl rfl ?_
        refine q_goto rfl ?_
        refine q_ist2n rfl rfl rfl rfl ?_
        refine q_aload_n rfl rfl rfl ?_
        refine q_iconst rfl rfl ?_
        refine q_putf rfl rfl (by decide) (FW_46 S hW) (by decide) rfl trivial ?_
        refine q_aload_n rfl rfl rfl ?_
        refine q_getf rfl rfl (by decide) rfl rfl ?_
        refine q_iload_n rfl rfl rfl ?_
        refine q_iald rfl rfl (by decide) (FW_62 S hW) (by decide) (q_tn (z := 0) rfl ?_)
        refine q_ifeq rfl rfl (fun c140 => ?_) (fun c140 => absurd (by decide) c140)
        refine q_aload_n rfl rfl rfl ?_
        refine q_getf rfl rfl (by decide) rfl rfl ?_
        refine q_iload_n rfl rfl rfl ?_
        refine q_aload_n rfl rfl rfl ?_
        refine q_iload_n rfl rfl rfl ?_
        refine q_iload_n rfl rfl rfl ?_
        refine q_nV2 rfl rfl (Or.inl rfl) rfl rfl rfl (by decide) rfl ⟨rfl, rfl⟩ rfl ?_
        change PQ _ _ _ mm_X12_explore 0 [.ref 46, .int 0, .int 0, pm_un, pm_un, pm_un, pm_un, pm_un] [] _ _ 0 0 _
        refine q_iconst rfl rfl ?_
        refine q_ist3n rfl rfl rfl rfl ?_
        refine l_net (R := 0) (by decide) rfl (by decide) rfl rfl (FW_61 S hW) ?_
        refine q_aload_n rfl rfl rfl ?_
        refine q_getf rfl rfl (by decide) rfl rfl ?_
        refine q_iload_n rfl rfl rfl ?_
        refine q_iconst rfl rfl ?_
        refine q_iast rfl rfl (by decide) (FW_60 S hW) (by decide) ?_
        refine q_aload_n rfl rfl rfl ?_
        refine q_nV0v rfl rfl (Or.inl rfl) rfl rfl rfl (by decide) rfl ⟨rfl, rfl⟩ rfl ?_
        change PQ _ _ _ mm_X12_firstState 0 [.ref 46, pm_un] [] _ _ 0 0 _
        refine q_iconst rfl rfl ?_
        refine q_ist1n rfl rfl rfl rfl ?_
        refine q_iload_n rfl rfl rfl ?_
        refine q_bipush rfl rfl ?_
        refine q_icge rfl rfl (fun c141 => absurd c141 (by decide)) (fun c141 => ?_)
        refine q_aload_n rfl rfl rfl ?_
        refine q_getf rfl rfl (by decide) rfl rfl ?_
        refine q_iload_n rfl rfl rfl ?_
        refine q_iconst rfl rfl ?_
        refine q_iast rfl rfl (by decide) (FW_52 S hW) (by decide) ?_
        refine q_icc1 (z := 1) rfl rfl rfl rfl rfl ?_
        refine q_goto rfl ?_
        refine q_iload_n rfl rfl rfl ?_
        refine q_bipush rfl rfl ?_
        refine q_icge rfl rfl (fun c142 => absurd c142 (by decide)) (fun c142 => ?_)
        refine q_aload_n rfl rfl rfl ?_
        refine q_getf rfl rfl (by decide) rfl rfl ?_
        refine q_iload_n rfl rfl rfl ?_
        refine q_iconst rfl rfl ?_
        refine q_iast rfl rfl (by decide) rfl (by decide) ?_
        refine q_icc1 (z := 2) rfl rfl rfl rfl rfl ?_
        refine q_goto rfl ?_
        refine q_iload_n rfl rfl rfl ?_
        refine q_bipush rfl rfl ?_
        refine q_icge rfl rfl (fun c143 => absurd c143 (by decide)) (fun c143 => ?_)
        refine q_aload_n rfl rfl rfl ?_
        refine q_getf rfl rfl (by decide) rfl rfl ?_
        refine q_iload_n rfl rfl rfl ?_
        refine q_iconst rfl rfl ?_
        refine q_iast rfl rfl (by decide) rfl (by decide) ?_
        refine q_icc1 (z := 3) rfl rfl rfl rfl rfl ?_
        refine q_goto rfl ?_
        refine q_iload_n rfl rfl rfl ?_
        refine q_bipush rfl rfl ?_
        refine q_icge rfl rfl (fun c144 => absurd c144 (by decide)) (fun c144 => ?_)
        refine q_aload_n rfl rfl rfl ?_
        refine q_getf rfl rfl (by decide) rfl rfl ?_
        refine q_iload_n rfl rfl rfl ?_
        refine q_iconst rfl rfl ?_
        refine q_iast rfl rfl (by decide) rfl (by decide) ?_
        refine q_icc1 (z := 4) rfl rfl rfl rfl rfl ?_
        refine q_goto rfl ?_
        refine q_iload_n rfl rfl rfl ?_
        refine q_bipush rfl rfl ?_
        refine q_icge rfl rfl (fun c145 => absurd c145 (by decide)) (fun c145 => ?_)
        refine q_aload_n rfl rfl rfl ?_
        refine q_getf rfl rfl (by decide) rfl rfl ?_
        refine q_iload_n rfl rfl rfl ?_
        refine q_iconst rfl rfl ?_
        refine q_iast rfl rfl (by decide) rfl (by decide) ?_
        refine q_icc1 (z := 5) rfl rfl rfl rfl rfl ?_
        refine q_goto rfl ?_
        refine q_iload_n rfl rfl rfl ?_
        refine q_bipush rfl rfl ?_
        refine q_icge rfl rfl (fun c146 => absurd c146 (by decide)) (fun c146 => ?_)
        refine q_aload_n rfl rfl rfl ?_
        refine q_getf rfl rfl (by decide) rfl rfl ?_
        refine q_iload_n rfl rfl rfl ?_
        refine q_iconst rfl rfl ?_
        refine q_iast rfl rfl (by decide) rfl (by decide) ?_
        refine q_icc1 (z := 6) rfl rfl rfl rfl rfl ?_
        refine q_goto rfl ?_
        refine q_iload_n rfl rfl rfl ?_
        refine q_bipush rfl rfl ?_
        refine q_icge rfl rfl (fun c147 => absurd c147 (by decide)) (fun c147 => ?_)
        refine q_aload_n rfl rfl rfl ?_
        refine q_getf rfl rfl (by decide) rfl rfl ?_
        refine q_iload_n rfl rfl rfl ?_
        refine q_iconst rfl rfl ?_
        refine q_iast rfl rfl (by decide) rfl (by decide) ?_
        refine q_icc1 (z := 7) rfl rfl rfl rfl rfl ?_
        refine q_goto rfl ?_
        refine q_iload_n rfl rfl rfl ?_
        refine q_bipush rfl rfl ?_
        refine q_icge rfl rfl (fun c148 => absurd c148 (by decide)) (fun c148 => ?_)
        refine q_aload_n rfl rfl rfl ?_
        refine q_getf rfl rfl (by decide) rfl rfl ?_
        refine q_iload_n rfl rfl rfl ?_
        refine q_iconst rfl rfl ?_
        refine q_iast rfl rfl (by decide) rfl (by decide) ?_
        refine q_icc1 (z := 8) rfl rfl rfl rfl rfl ?_
        refine q_goto rfl ?_
        refine q_iload_n rfl rfl rfl ?_
        refine q_bipush rfl rfl ?_
        refine q_icge rfl rfl (fun c149 => absurd c149 (by decide)) (fun c149 => ?_)
        refine q_aload_n rfl rfl rfl ?_
        refine q_getf rfl rfl (by decide) rfl rfl ?_
        refine q_iload_n rfl rfl rfl ?_
        refine q_iconst rfl rfl ?_
        refine q_iast rfl rfl (by decide) rfl (by decide) ?_
        refine q_icc1 (z := 9) rfl rfl rfl rfl rfl ?_
        refine q_goto rfl ?_
        refine q_iload_n rfl rfl rfl ?_
        refine q_bipush rfl rfl ?_
        refine q_icge rfl rfl (fun c150 => absurd c150 (by decide)) (fun c150 => ?_)
        refine q_aload_n rfl rfl rfl ?_
        refine q_getf rfl rfl (by decide) rfl rfl ?_
        refine q_iload_n rfl rfl rfl ?_
        refine q_iconst rfl rfl ?_
        refine q_iast rfl rfl (by decide) rfl (by decide) ?_
        refine q_icc1 (z := 10) rfl rfl rfl rfl rfl ?_
        refine q_goto rfl ?_
        refine q_iload_n rfl rfl rfl ?_
        refine q_bipush rfl rfl ?_
        refine q_icge rfl rfl (fun c151 => absurd c151 (by decide)) (fun c151 => ?_)
        refine q_aload_n rfl rfl rfl ?_
        refine q_getf rfl rfl (by decide) rfl rfl ?_
        refine q_iload_n rfl rfl rfl ?_
        refine q_iconst rfl rfl ?_
        refine q_iast rfl rfl (by decide) rfl (by decide) ?_
        refine q_icc1 (z := 11) rfl rfl rfl rfl rfl ?_
        refine q_goto rfl ?_
        refine q_iload_n rfl rfl rfl ?_
        refine q_bipush rfl rfl ?_
        refine q_icge rfl rfl (fun c152 => absurd c152 (by decide)) (fun c152 => ?_)
        refine q_aload_n rfl rfl rfl ?_
        refine q_getf rfl rfl (by decide) rfl rfl ?_
        refine q_iload_n rfl rfl rfl ?_
        refine q_iconst rfl rfl ?_
        refine q_iast rfl rfl (by decide) rfl (by decide) ?_
        refine q_icc1 (z := 12) rfl rfl rfl rfl rfl ?_
        refine q_goto rfl ?_
        refine q_iload_n rfl rfl rfl ?_
        refine q_bipush rfl rfl ?_
        refine q_icge rfl rfl (fun c153 => absurd c153 (by decide)) (fun c153 => ?_)
        refine q_aload_n rfl rfl rfl ?_
        refine q_getf rfl rfl (by decide) rfl rfl ?_
        refine q_iload_n rfl rfl rfl ?_
        refine q_iconst rfl rfl ?_
        refine q_iast rfl rfl (by decide) rfl (by decide) ?_
        refine q_icc1 (z := 13) rfl rfl rfl rfl rfl ?_
        refine q_goto rfl ?_
        refine q_iload_n rfl rfl rfl ?_
        refine q_bipush rfl rfl ?_
        refine q_icge rfl rfl (fun c154 => absurd c154 (by decide)) (fun c154 => ?_)
        refine q_aload_n rfl rfl rfl ?_
        refine q_getf rfl rfl (by decide) rfl rfl ?_
        refine q_iload_n rfl rfl rfl ?_
        refine q_iconst rfl rfl ?_
        refine q_iast rfl rfl (by decide) rfl (by decide) ?_
        refine q_icc1 (z := 14) rfl rfl rfl rfl rfl ?_
        refine q_goto rfl ?_
        refine q_iload_n rfl rfl rfl ?_
        refine q_bipush rfl rfl ?_
        refine q_icge rfl rfl (fun c155 => absurd c155 (by decide)) (fun c155 => ?_)
        refine q_aload_n rfl rfl rfl ?_
        refine q_getf rfl rfl (by decide) rfl rfl ?_
        refine q_iload_n rfl rfl rfl ?_
        refine q_iconst rfl rfl ?_
        refine q_iast rfl rfl (by decide) rfl (by decide) ?_
        refine q_icc1 (z := 15) rfl rfl rfl rfl rfl ?_
        refine q_goto rfl ?_
        refine q_iload_n rfl rfl rfl ?_
        refine q_bipush rfl rfl ?_
        refine q_icge rfl rfl (fun c156 => absurd c156 (by decide)) (fun c156 => ?_)
        refine q_aload_n rfl rfl rfl ?_
        refine q_getf rfl rfl (by decide) rfl rfl ?_
        refine q_iload_n rfl rfl rfl ?_
        refine q_iconst rfl rfl ?_
        refine q_iast rfl rfl (by decide) rfl (by decide) ?_
        refine q_icc1 (z := 16) rfl rfl rfl rfl rfl ?_
        refine q_goto rfl ?_
        refine q_iload_n rfl rfl rfl ?_
        refine q_bipush rfl rfl ?_
        refine q_icge rfl rfl (fun c157 => absurd c157 (by decide)) (fun c157 => ?_)
        refine q_aload_n rfl rfl rfl ?_
        refine q_getf rfl rfl (by decide) rfl rfl ?_
        refine q_iload_n rfl rfl rfl ?_
        refine q_iconst rfl rfl ?_
        refine q_iast rfl rfl (by decide) rfl (by decide) ?_
        refine q_icc1 (z := 17) rfl rfl rfl rfl rfl ?_
        refine q_goto rfl ?_
        refine q_iload_n rfl rfl rfl ?_
        refine q_bipush rfl rfl ?_
        refine q_icge rfl rfl (fun c158 => absurd c158 (by decide)) (fun c158 => ?_)
        refine q_aload_n rfl rfl rfl ?_
        refine q_getf rfl rfl (by decide) rfl rfl ?_
        refine q_iload_n rfl rfl rfl ?_
        refine q_iconst rfl rfl ?_
        refine q_iast rfl rfl (by decide) rfl (by decide) ?_
        refine q_icc1 (z := 18) rfl rfl rfl rfl rfl ?_
        refine q_goto rfl ?_
        refine q_iload_n rfl rfl rfl ?_
        refine q_bipush rfl rfl ?_
        refine q_icge rfl rfl (fun c159 => absurd c159 (by decide)) (fun c159 => ?_)
        refine q_aload_n rfl rfl rfl ?_
        refine q_getf rfl rfl (by decide) rfl rfl ?_
        refine q_iload_n rfl rfl rfl ?_
        refine q_iconst rfl rfl ?_
        refine q_iast rfl rfl (by decide) rfl (by decide) ?_
        refine q_icc1 (z := 19) rfl rfl rfl rfl rfl ?_
        refine q_goto rfl ?_
        refine q_iload_n rfl rfl rfl ?_
        refine q_bipush rfl rfl ?_
        refine q_icge rfl rfl (fun c160 => absurd c160 (by decide)) (fun c160 => ?_)
        refine q_aload_n rfl rfl rfl ?_
        refine q_getf rfl rfl (by decide) rfl rfl ?_
        refine q_iload_n rfl rfl rfl ?_
        refine q_iconst rfl rfl ?_
        refine q_iast rfl rfl (by decide) rfl (by decide) ?_
        refine q_icc1 (z := 20) rfl rfl rfl rfl rfl ?_
        refine q_goto rfl ?_
        refine q_iload_n rfl rfl rfl ?_
        refine q_bipush rfl rfl ?_
        refine q_icge rfl rfl (fun c161 => ?_) (fun c161 => absurd (by decide) c161)
        refine q_iconst rfl rfl ?_
        refine q_ist1n rfl rfl rfl rfl ?_
        refine q_iload_n rfl rfl rfl ?_
        refine q_aload_n rfl rfl rfl ?_
        refine q_getf rfl rfl (by decide) rfl rfl ?_
        refine q_icge rfl rfl (fun c162 => absurd c162 (by decide)) (fun c162 => ?_)
        refine q_aload_n rfl rfl rfl ?_
        refine q_getf rfl rfl (by decide) rfl rfl ?_
        refine q_iconst rfl rfl ?_
        refine q_iload_n rfl rfl rfl ?_
        refine q_imul rfl rfl (q_tn (z := 0) rfl ?_)
        refine q_aload_n rfl rfl rfl ?_
        refine q_getf rfl rfl (by decide) rfl rfl ?_
        refine q_aload_n rfl rfl rfl ?_
        refine q_getf rfl rfl (by decide) rfl rfl ?_
        refine q_iload_n rfl rfl rfl ?_
        refine q_iadd rfl rfl (q_tn (z := 0) rfl ?_)
        refine q_iald rfl rfl (by decide) (FW_47 S hW) (by decide) (q_tn (z := 0) rfl ?_)
        refine q_ifne rfl rfl (fun c163 => ?_) (fun c163 => absurd (by decide) c163)
        refine q_bipush rfl rfl ?_
        refine q_goto rfl ?_
        refine q_iast rfl rfl (by decide) rfl (by decide) ?_
        refine q_icc1 (z := 1) rfl rfl rfl rfl rfl ?_
        refine q_goto rfl ?_
        refine q_iload_n rfl rfl rfl ?_
        refine q_aload_n rfl rfl rfl ?_
        refine q_getf rfl rfl (by decide) rfl rfl ?_
        refine q_icge rfl rfl (fun c164 => ?_) (fun c164 => absurd (by decide) c164)
        refine q_iconst rfl rfl ?_
        refine q_ist1n rfl rfl rfl rfl ?_
        refine q_iload_n rfl rfl rfl ?_
        refine q_iconst rfl rfl ?_
        refine q_icge rfl rfl (fun c165 => absurd c165 (by decide)) (fun c165 => ?_)
        refine q_aload_n rfl rfl rfl ?_
        refine q_getf rfl rfl (by decide) rfl rfl ?_
        refine q_bipush rfl rfl ?_
        refine q_iload_n rfl rfl rfl ?_
        refine q_iadd rfl rfl (q_tn (z := 12) rfl ?_)
        refine q_aload_n rfl rfl rfl ?_
        refine q_getf rfl rfl (by decide) rfl rfl ?_
        refine q_iload_n rfl rfl rfl ?_
        refine q_iald rfl rfl (by decide) (FW_51 S hW) (by decide) (q_tn (z := 0) rfl ?_)
        refine q_iast rfl rfl (by decide) rfl (by decide) ?_
        refine q_icc1 (z := 1) rfl rfl rfl rfl rfl ?_
        refine q_goto rfl ?_
        refine q_iload_n rfl rfl rfl ?_
        refine q_iconst rfl rfl ?_
        refine q_icge rfl rfl (fun c166 => absurd c166 (by decide)) (fun c166 => ?_)
        refine q_aload_n rfl rfl rfl ?_
        refine q_getf rfl rfl (by decide) rfl rfl ?_
        refine q_bipush rfl rfl ?_
        refine q_iload_n rfl rfl rfl ?_
        refine q_iadd rfl rfl (q_tn (z := 13) rfl ?_)
        refine q_aload_n rfl rfl rfl ?_
        refine q_getf rfl rfl (by decide) rfl rfl ?_
        refine q_iload_n rfl rfl rfl ?_
        refine q_iald rfl rfl (by decide) (FW_51 S hW) (by decide) (q_tn (z := 0) rfl ?_)
        refine q_iast rfl rfl (by decide) rfl (by decide) ?_
        refine q_icc1 (z := 2) rfl rfl rfl rfl rfl ?_
        refine q_goto rfl ?_
        refine q_iload_n rfl rfl rfl ?_
        refine q_iconst rfl rfl ?_
        refine q_icge rfl rfl (fun c167 => absurd c167 (by decide)) (fun c167 => ?_)
        refine q_aload_n rfl rfl rfl ?_
        refine q_getf rfl rfl (by decide) rfl rfl ?_
        refine q_bipush rfl rfl ?_
        refine q_iload_n rfl rfl rfl ?_
        refine q_iadd rfl rfl (q_tn (z := 14) rfl ?_)
        refine q_aload_n rfl rfl rfl ?_
        refine q_getf rfl rfl (by decide) rfl rfl ?_
        refine q_iload_n rfl rfl rfl ?_
        refine q_iald rfl rfl (by decide) (FW_51 S hW) (by decide) (q_tn (z := 0) rfl ?_)
        refine q_iast rfl rfl (by decide) rfl (by decide) ?_
        refine q_icc1 (z := 3) rfl rfl rfl rfl rfl ?_
        refine q_goto rfl ?_
        refine q_iload_n rfl rfl rfl ?_
        refine q_iconst rfl rfl ?_
        refine q_icge rfl rfl (fun c168 => absurd c168 (by decide)) (fun c168 => ?_)
        refine q_aload_n rfl rfl rfl ?_
        refine q_getf rfl rfl (by decide) rfl rfl ?_
        refine q_bipush rfl rfl ?_
        refine q_iload_n rfl rfl rfl ?_
        refine q_iadd rfl rfl (q_tn (z := 15) rfl ?_)
        refine q_aload_n rfl rfl rfl ?_
        refine q_getf rfl rfl (by decide) rfl rfl ?_
        refine q_iload_n rfl rfl rfl ?_
        refine q_iald rfl rfl (by decide) (FW_51 S hW) (by decide) (q_tn (z := 0) rfl ?_)
        refine q_iast rfl rfl (by decide) rfl (by decide) ?_
        refine q_icc1 (z := 4) rfl rfl rfl rfl rfl ?_
        refine q_goto rfl ?_
        refine q_iload_n rfl rfl rfl ?_
        refine q_iconst rfl rfl ?_
        refine q_icge rfl rfl (fun c169 => ?_) (fun c169 => absurd (by decide) c169)
        refine q_ret rfl rfl ?_
        refine ⟨rfl, ?_⟩
        refine q_iconst rfl rfl ?_
        refine q_ist3n rfl rfl rfl rfl ?_
        refine q_iload_n rfl rfl rfl ?_
        refine q_bipush rfl rfl ?_
        refine q_icge rfl rfl (fun c170 => absurd c170 (by decide)) (fun c170 => ?_)
        refine q_aload_n rfl rfl rfl ?_
        refine q_getf rfl rfl (by decide) rfl rfl ?_
        refine q_iload_n rfl rfl rfl ?_
        refine q_aload_n rfl rfl rfl ?_
        refine q_getf rfl rfl (by decide) rfl rfl ?_
        refine q_iload_n rfl rfl rfl ?_
        refine q_iald rfl rfl (by decide) rfl (by decide) (q_tn (z := 10) rfl ?_)
        refine q_iast rfl rfl (by decide) (FW_53 S hW) (by decide) ?_
        refine q_icc3 (z := 1) rfl rfl rfl rfl rfl ?_
        refine q_goto rfl ?_
        refine q_iload_n rfl rfl rfl ?_
        refine q_bipush rfl rfl ?_
        refine q_icge rfl rfl (fun c171 => absurd c171 (by decide)) (fun c171 => ?_)
        refine q_aload_n rfl rfl rfl ?_
        refine q_getf rfl rfl (by decide) rfl rfl ?_
        refine q_iload_n rfl rfl rfl ?_
        refine q_aload_n rfl rfl rfl ?_
        refine q_getf rfl rfl (by decide) rfl rfl ?_
        refine q_iload_n rfl rfl rfl ?_
        refine q_iald rfl rfl (by decide) rfl (by decide) (q_tn (z := 0) rfl ?_)
        refine q_iast rfl rfl (by decide) rfl (by decide) ?_
        refine q_icc3 (z := 2) rfl rfl rfl rfl rfl ?_
        refine q_goto rfl ?_
        refine q_iload_n rfl rfl rfl ?_
        refine q_bipush rfl rfl ?_
        refine q_icge rfl rfl (fun c172 => absurd c172 (by decide)) (fun c172 => ?_)
        refine q_aload_n rfl rfl rfl ?_
        refine q_getf rfl rfl (by decide) rfl rfl ?_
        refine q_iload_n rfl rfl rfl ?_
        refine q_aload_n rfl rfl rfl ?_
        refine q_getf rfl rfl (by decide) rfl rfl ?_
        refine q_iload_n rfl rfl rfl ?_
        refine q_iald rfl rfl (by decide) rfl (by decide) (q_tn (z := 0) rfl ?_)
        refine q_iast rfl rfl (by decide) rfl (by decide) ?_
        refine q_icc3 (z := 3) rfl rfl rfl rfl rfl ?_
        refine q_goto rfl ?_
        refine q_iload_n rfl rfl rfl ?_
        refine q_bipush rfl rfl ?_
        refine q_icge rfl rfl (fun c173 => absurd c173 (by decide)) (fun c173 => ?_)
        refine q_aload_n rfl rfl rfl ?_
        refine q_getf rfl rfl (by decide) rfl rfl ?_
        refine q_iload_n rfl rfl rfl ?_
        refine q_aload_n rfl rfl rfl ?_
        refine q_getf rfl rfl (by decide) rfl rfl ?_
        refine q_iload_n rfl rfl rfl ?_
        refine q_iald rfl rfl (by decide) rfl (by decide) (q_tn (z := 0) rfl ?_)
        refine q_iast rfl rfl (by decide) rfl (by decide) ?_
        refine q_icc3 (z := 4) rfl rfl rfl rfl rfl ?_
        refine q_goto rfl ?_
        refine q_iload_n rfl rfl rfl ?_
        refine q_bipush rfl rfl ?_
        refine q_icge rfl rfl (fun c174 => absurd c174 (by decide)) (fun c174 => ?_)
        refine q_aload_n rfl rfl rfl ?_
        refine q_getf rfl rfl (by decide) rfl rfl ?_
        refine q_iload_n rfl rfl rfl ?_
        refine q_aload_n rfl rfl rfl ?_
        refine q_getf rfl rfl (by decide) rfl rfl ?_
        refine q_iload_n rfl rfl rfl ?_
        refine q_iald rfl rfl (by decide) rfl (by decide) (q_tn (z := 0) rfl ?_)
        refine q_iast rfl rfl (by decide) rfl (by decide) ?_
        refine q_icc3 (z := 5) rfl rfl rfl rfl rfl ?_
        refine q_goto rfl ?_
        refine q_iload_n rfl rfl rfl ?_
        refine q_bipush rfl rfl ?_
        refine q_icge rfl rfl (fun c175 => absurd c175 (by decide)) (fun c175 => ?_)
        refine q_aload_n rfl rfl rfl ?_
        refine q_getf rfl rfl (by decide) rfl rfl ?_
        refine q_iload_n rfl rfl rfl ?_
        refine q_aload_n rfl rfl rfl ?_
        refine q_getf rfl rfl (by decide) rfl rfl ?_
        refine q_iload_n rfl rfl rfl ?_
        refine q_iald rfl rfl (by decide) rfl (by decide) (q_tn (z := 0) rfl ?_)
        refine q_iast rfl rfl (by decide) rfl (by decide) ?_
        refine q_icc3 (z := 6) rfl rfl rfl rfl rfl ?_
        refine q_goto rfl ?_
        refine q_iload_n rfl rfl rfl ?_
        refine q_bipush rfl rfl ?_
        refine q_icge rfl rfl (fun c176 => absurd c176 (by decide)) (fun c176 => ?_)
        refine q_aload_n rfl rfl rfl ?_
        refine q_getf rfl rfl (by decide) rfl rfl ?_
        refine q_iload_n rfl rfl rfl ?_
        refine q_aload_n rfl rfl rfl ?_
        refine q_getf rfl rfl (by decide) rfl rfl ?_
        refine q_iload_n rfl rfl rfl ?_
        refine q_iald rfl rfl (by decide) rfl (by decide) (q_tn (z := 0) rfl ?_)
        refine q_iast rfl rfl (by decide) rfl (by decide) ?_
        refine q_icc3 (z := 7) rfl rfl rfl rfl rfl ?_
        refine q_goto rfl ?_
        refine q_iload_n rfl rfl rfl ?_
        refine q_bipush rfl rfl ?_
        refine q_icge rfl rfl (fun c177 => absurd c177 (by decide)) (fun c177 => ?_)
        refine q_aload_n rfl rfl rfl ?_
        refine q_getf rfl rfl (by decide) rfl rfl ?_
        refine q_iload_n rfl rfl rfl ?_
        refine q_aload_n rfl rfl rfl ?_
        refine q_getf rfl rfl (by decide) rfl rfl ?_
        refine q_iload_n rfl rfl rfl ?_
        refine q_iald rfl rfl (by decide) rfl (by decide) (q_tn (z := 0) rfl ?_)
        refine q_iast rfl rfl (by decide) rfl (by decide) ?_
        refine q_icc3 (z := 8) rfl rfl rfl rfl rfl ?_
        refine q_goto rfl ?_
        refine q_iload_n rfl rfl rfl ?_
        refine q_bipush rfl rfl ?_
        refine q_icge rfl rfl (fun c178 => absurd c178 (by decide)) (fun c178 => ?_)
        refine q_aload_n rfl rfl rfl ?_
        refine q_getf rfl rfl (by decide) rfl rfl ?_
        refine q_iload_n rfl rfl rfl ?_
        refine q_aload_n rfl rfl rfl ?_
        refine q_getf rfl rfl (by decide) rfl rfl ?_
        refine q_iload_n rfl rfl rfl ?_
        refine q_iald rfl rfl (by decide) rfl (by decide) (q_tn (z := 0) rfl ?_)
        refine q_iast rfl rfl (by decide) rfl (by decide) ?_
        refine q_icc3 (z := 9) rfl rfl rfl rfl rfl ?_
        refine q_goto rfl ?_
        refine q_iload_n rfl rfl rfl ?_
        refine q_bipush rfl rfl ?_
        refine q_icge rfl rfl (fun c179 => absurd c179 (by decide)) (fun c179 => ?_)
        refine q_aload_n rfl rfl rfl ?_
        refine q_getf rfl rfl (by decide) rfl rfl ?_
        refine q_iload_n rfl rfl rfl ?_
        refine q_aload_n rfl rfl rfl ?_
        refine q_getf rfl rfl (by decide) rfl rfl ?_
        refine q_iload_n rfl rfl rfl ?_
        refine q_iald rfl rfl (by decide) rfl (by decide) (q_tn (z := 0) rfl ?_)
        refine q_iast rfl rfl (by decide) rfl (by decide) ?_
        refine q_icc3 (z := 10) rfl rfl rfl rfl rfl ?_
        refine q_goto rfl ?_
        refine q_iload_n rfl rfl rfl ?_
        refine q_bipush rfl rfl ?_
        refine q_icge rfl rfl (fun c180 => absurd c180 (by decide)) (fun c180 => ?_)
        refine q_aload_n rfl rfl rfl ?_
        refine q_getf rfl rfl (by decide) rfl rfl ?_
        refine q_iload_n rfl rfl rfl ?_
        refine q_aload_n rfl rfl rfl ?_
        refine q_getf rfl rfl (by decide) rfl rfl ?_
        refine q_iload_n rfl rfl rfl ?_
        refine q_iald rfl rfl (by decide) rfl (by decide) (q_tn (z := 0) rfl ?_)
        refine q_iast rfl rfl (by decide) rfl (by decide) ?_
        refine q_icc3 (z := 11) rfl rfl rfl rfl rfl ?_
        refine q_goto rfl ?_
        refine q_iload_n rfl rfl rfl ?_
        refine q_bipush rfl rfl ?_
        refine q_icge rfl rfl (fun c181 => absurd c181 (by decide)) (fun c181 => ?_)
        refine q_aload_n rfl rfl rfl ?_
        refine q_getf rfl rfl (by decide) rfl rfl ?_
        refine q_iload_n rfl rfl rfl ?_
        refine q_aload_n rfl rfl rfl ?_
        refine q_getf rfl rfl (by decide) rfl rfl ?_
        refine q_iload_n rfl rfl rfl ?_
        refine q_iald rfl rfl (by decide) rfl (by decide) (q_tn (z := 0) rfl ?_)
        refine q_iast rfl rfl (by decide) rfl (by decide) ?_
        refine q_icc3 (z := 12) rfl rfl rfl rfl rfl ?_
        refine q_goto rfl ?_
        refine q_iload_n rfl rfl rfl ?_
        refine q_bipush rfl rfl ?_
        refine q_icge rfl rfl (fun c182 => absurd c182 (by decide)) (fun c182 => ?_)
        refine q_aload_n rfl rfl rfl ?_
        refine q_getf rfl rfl (by decide) rfl rfl ?_
        refine q_iload_n rfl rfl rfl ?_
        refine q_aload_n rfl rfl rfl ?_
        refine q_getf rfl rfl (by decide) rfl rfl ?_
        refine q_iload_n rfl rfl rfl ?_
        refine q_iald rfl rfl (by decide) rfl (by decide) (q_tn (z := 0) rfl ?_)
        refine q_iast rfl rfl (by decide) rfl (by decide) ?_
        refine q_icc3 (z := 13) rfl rfl rfl rfl rfl ?_
        refine q_goto rfl ?_
        refine q_iload_n rfl rfl rfl ?_
        refine q_bipush rfl rfl ?_
        refine q_icge rfl rfl (fun c183 => absurd c183 (by decide)) (fun c183 => ?_)
        refine q_aload_n rfl rfl rfl ?_
        refine q_getf rfl rfl (by decide) rfl rfl ?_
        refine q_iload_n rfl rfl rfl ?_
        refine q_aload_n rfl rfl rfl ?_
        refine q_getf rfl rfl (by decide) rfl rfl ?_
        refine q_iload_n rfl rfl rfl ?_
        refine q_iald rfl rfl (by decide) rfl (by decide) (q_tn (z := 0) rfl ?_)
        refine q_iast rfl rfl (by decide) rfl (by decide) ?_
        refine q_icc3 (z := 14) rfl rfl rfl rfl rfl ?_
        refine q_goto rfl ?_
        refine q_iload_n rfl rfl rfl ?_
        refine q_bipush rfl rfl ?_
        refine q_icge rfl rfl (fun c184 => absurd c184 (by decide)) (fun c184 => ?_)
        refine q_aload_n rfl rfl rfl ?_
        refine q_getf rfl rfl (by decide) rfl rfl ?_
        refine q_iload_n rfl rfl rfl ?_
        refine q_aload_n rfl rfl rfl ?_
        refine q_getf rfl rfl (by decide) rfl rfl ?_
        refine q_iload_n rfl rfl rfl ?_
        refine q_iald rfl rfl (by decide) rfl (by decide) (q_tn (z := 0) rfl ?_)
        refine q_iast rfl rfl (by decide) rfl (by decide) ?_
        refine q_icc3 (z := 15) rfl rfl rfl rfl rfl ?_
        refine q_goto rfl ?_
        refine q_iload_n rfl rfl rfl ?_
        refine q_bipush rfl rfl ?_
        refine q_icge rfl rfl (fun c185 => absurd c185 (by decide)) (fun c185 => ?_)
        refine q_aload_n rfl rfl rfl ?_
        refine q_getf rfl rfl (by decide) rfl rfl ?_
        refine q_iload_n rfl rfl rfl ?_
        refine q_aload_n rfl rfl rfl ?_
        refine q_getf rfl rfl (by decide) rfl rfl ?_
        refine q_iload_n rfl rfl rfl ?_
        refine q_iald rfl rfl (by decide) rfl (by decide) (q_tn (z := 0) rfl ?_)
        refine q_iast rfl rfl (by decide) rfl (by decide) ?_
        refine q_icc3 (z := 16) rfl rfl rfl rfl rfl ?_
        refine q_goto rfl ?_
        refine q_iload_n rfl rfl rfl ?_
        refine q_bipush rfl rfl ?_
        refine q_icge rfl rfl (fun c186 => absurd c186 (by decide)) (fun c186 => ?_)
        refine q_aload_n rfl rfl rfl ?_
        refine q_getf rfl rfl (by decide) rfl rfl ?_
        refine q_iload_n rfl rfl rfl ?_
        refine q_aload_n rfl rfl rfl ?_
        refine q_getf rfl rfl (by decide) rfl rfl ?_
        refine q_iload_n rfl rfl rfl ?_
        refine q_iald rfl rfl (by decide) rfl (by decide) (q_tn (z := 0) rfl ?_)
        refine q_iast rfl rfl (by decide) rfl (by decide) ?_
        refine q_icc3 (z := 17) rfl rfl rfl rfl rfl ?_
        refine q_goto rfl ?_
        refine q_iload_n rfl rfl rfl ?_
        refine q_bipush rfl rfl ?_
        refine q_icge rfl rfl (fun c187 => absurd c187 (by decide)) (fun c187 => ?_)
        refine q_aload_n rfl rfl rfl ?_
        refine q_getf rfl rfl (by decide) rfl rfl ?_
        refine q_iload_n rfl rfl rfl ?_
        refine q_aload_n rfl rfl rfl ?_
        refine q_getf rfl rfl (by decide) rfl rfl ?_
        refine q_iload_n rfl rfl rfl ?_
        refine q_iald rfl rfl (by decide) rfl (by decide) (q_tn (z := 0) rfl ?_)
        refine q_iast rfl rfl (by decide) rfl (by decide) ?_
        refine q_icc3 (z := 18) rfl rfl rfl rfl rfl ?_
        refine q_goto rfl ?_
        refine q_iload_n rfl rfl rfl ?_
        refine q_bipush rfl rfl ?_
        refine q_icge rfl rfl (fun c188 => absurd c188 (by decide)) (fun c188 => ?_)
        refine q_aload_n rfl rfl rfl ?_
        refine q_getf rfl rfl (by decide) rfl rfl ?_
        refine q_iload_n rfl rfl rfl ?_
        refine q_aload_n rfl rfl rfl ?_
        refine q_getf rfl rfl (by decide) rfl rfl ?_
        refine q_iload_n rfl rfl rfl ?_
        refine q_iald rfl rfl (by decide) rfl (by decide) (q_tn (z := 0) rfl ?_)
        refine q_iast rfl rfl (by decide) rfl (by decide) ?_
        refine q_icc3 (z := 19) rfl rfl rfl rfl rfl ?_
        refine q_goto rfl ?_
        refine q_iload_n rfl rfl rfl ?_
        refine q_bipush rfl rfl ?_
        refine q_icge rfl rfl (fun c189 => absurd c189 (by decide)) (fun c189 => ?_)
        refine q_aload_n rfl rfl rfl ?_
        refine q_getf rfl rfl (by decide) rfl rfl ?_
        refine q_iload_n rfl rfl rfl ?_
        refine q_aload_n rfl rfl rfl ?_
        refine q_getf rfl rfl (by decide) rfl rfl ?_
        refine q_iload_n rfl rfl rfl ?_
        refine q_iald rfl rfl (by decide) rfl (by decide) (q_tn (z := 0) rfl ?_)
        refine q_iast rfl rfl (by decide) rfl (by decide) ?_
        refine q_icc3 (z := 20) rfl rfl rfl rfl rfl ?_
        refine q_goto rfl ?_
        refine q_iload_n rfl rfl rfl ?_
        refine q_bipush rfl rfl ?_
        refine q_icge rfl rfl (fun c190 => ?_) (fun c190 => absurd (by decide) c190)
        refine q_aload_n rfl rfl rfl ?_
        refine q_iload_n rfl rfl rfl ?_
        refine q_iconst rfl rfl ?_
        refine q_iconst rfl rfl ?_
        refine q_nV3 rfl rfl (Or.inl rfl) rfl rfl rfl (by decide) rfl ⟨rfl, rfl⟩ rfl ?_
        change PQ _ _ _ mm_X12_put 0 [.ref 46, .int 0, .int (-1), .int (-1), pm_un, pm_un, pm_un] [] _ _ 0 0 _
        refine q_aload_n rfl rfl rfl ?_
        refine q_getf rfl rfl (by decide) rfl rfl ?_
        refine q_iload_n rfl rfl rfl ?_
        refine q_iald rfl rfl (by decide) rfl (by decide) (q_tn (z := 0) rfl ?_)
        refine q_ist4 rfl rfl rfl rfl ?_
        refine q_iload rfl rfl rfl ?_
        refine q_sipush rfl rfl ?_
        refine q_icne rfl rfl (fun c191 => absurd c191 (by decide)) (fun c191 => ?_)
        refine q_sipush rfl rfl ?_
        refine q_iload_n rfl rfl rfl ?_
        refine q_imul rfl rfl (q_tn (z := 0) rfl ?_)
        refine q_iload rfl rfl rfl ?_
        refine q_iadd rfl rfl (q_tn (z := 0) rfl ?_)
        refine q_ist5 rfl rfl rfl rfl ?_
        refine q_iconst rfl rfl ?_
        refine q_ist6 rfl rfl rfl rfl ?_
        refine q_iload rfl rfl rfl ?_
        refine q_bipush rfl rfl ?_
        refine q_icge rfl rfl (fun c192 => absurd c192 (by decide)) (fun c192 => ?_)
        refine q_aload_n rfl rfl rfl ?_
        refine q_getf rfl rfl (by decide) rfl rfl ?_
        refine q_bipush rfl rfl ?_
        refine q_iload rfl rfl rfl ?_
        refine q_imul rfl rfl (q_tn (z := 0) rfl ?_)
        refine q_iload rfl rfl rfl ?_
        refine q_iadd rfl rfl (q_tn (z := 0) rfl ?_)
        refine q_aload_n rfl rfl rfl ?_
        refine q_getf rfl rfl (by decide) rfl rfl ?_
        refine q_iload rfl rfl rfl ?_
        refine q_iald rfl rfl (by decide) rfl (by decide) (q_tn (z := 10) rfl ?_)
        refine q_iast rfl rfl (by decide) (FW_55 S hW) (by decide) ?_
        refine q_icc6 (z := 1) rfl rfl rfl rfl rfl ?_
        refine q_goto rfl ?_
        refine q_iload rfl rfl rfl ?_
        refine q_bipush rfl rfl ?_
        refine q_icge rfl rfl (fun c193 => absurd c193 (by decide)) (fun c193 => ?_)
        refine q_aload_n rfl rfl rfl ?_
        refine q_getf rfl rfl (by decide) rfl rfl ?_
        refine q_bipush rfl rfl ?_
        refine q_iload rfl rfl rfl ?_
        refine q_imul rfl rfl (q_tn (z := 0) rfl ?_)
        refine q_iload rfl rfl rfl ?_
        refine q_iadd rfl rfl (q_tn (z := 1) rfl ?_)
        refine q_aload_n rfl rfl rfl ?_
        refine q_getf rfl rfl (by decide) rfl rfl ?_
        refine q_iload rfl rfl rfl ?_
        refine q_iald rfl rfl (by decide) rfl (by decide) (q_tn (z := 0) rfl ?_)
        refine q_iast rfl rfl (by decide) rfl (by decide) ?_
        refine q_icc6 (z := 2) rfl rfl rfl rfl rfl ?_
        as_aux_lemma =>
          refine q_goto rfl ?_
          refine q_iload rfl rfl rfl ?_
          refine q_bipush rfl rfl ?_
          refine q_icge rfl rfl (fun c194 => absurd c194 (by decide)) (fun c194 => ?_)
          refine q_aload_n rfl rfl rfl ?_
          refine q_getf rfl rfl (by decide) rfl rfl ?_
          refine q_bipush rfl rfl ?_
          refine q_iload rfl rfl rfl ?_
          refine q_imul rfl rfl (q_tn (z := 0) rfl ?_)
          refine q_iload rfl rfl rfl ?_
          refine q_iadd rfl rfl (q_tn (z := 2) rfl ?_)
          refine q_aload_n rfl rfl rfl ?_
          refine q_getf rfl rfl (by decide) rfl rfl ?_
          refine q_iload rfl rfl rfl ?_
          refine q_iald rfl rfl (by decide) rfl (by decide) (q_tn (z := 0) rfl ?_)
          refine q_iast rfl rfl (by decide) rfl (by decide) ?_
          refine q_icc6 (z := 3) rfl rfl rfl rfl rfl ?_
          refine q_goto rfl ?_
          refine q_iload rfl rfl rfl ?_
          refine q_bipush rfl rfl ?_
          refine q_icge rfl rfl (fun c195 => absurd c195 (by decide)) (fun c195 => ?_)
          refine q_aload_n rfl rfl rfl ?_
          refine q_getf rfl rfl (by decide) rfl rfl ?_
          refine q_bipush rfl rfl ?_
          refine q_iload rfl rfl rfl ?_
          refine q_imul rfl rfl (q_tn (z := 0) rfl ?_)
          refine q_iload rfl rfl rfl ?_
          refine q_iadd rfl rfl (q_tn (z := 3) rfl ?_)
          refine q_aload_n rfl rfl rfl ?_
          refine q_getf rfl rfl (by decide) rfl rfl ?_
          refine q_iload rfl rfl rfl ?_
          refine q_iald rfl rfl (by decide) rfl (by decide) (q_tn (z := 0) rfl ?_)
          refine q_iast rfl rfl (by decide) rfl (by decide) ?_
          refine q_icc6 (z := 4) rfl rfl rfl rfl rfl ?_
          refine q_goto rfl ?_
          refine q_iload rfl rfl rfl ?_
          refine q_bipush rfl rfl ?_
          refine q_icge rfl rfl (fun c196 => absurd c196 (by decide)) (fun c196 => ?_)
          refine q_aload_n rfl rfl rfl ?_
          refine q_getf rfl rfl (by decide) rfl rfl ?_
          refine q_bipush rfl rfl ?_
          refine q_iload rfl rfl rfl ?_
          refine q_imul rfl rfl (q_tn (z := 0) rfl ?_)
          refine q_iload rfl rfl rfl ?_
          refine q_iadd rfl rfl (q_tn (z := 4) rfl ?_)
          refine q_aload_n rfl rfl rfl ?_
          refine q_getf rfl rfl (by decide) rfl rfl ?_
          refine q_iload rfl rfl rfl ?_
          refine q_iald rfl rfl (by decide) rfl (by decide) (q_tn (z := 0) rfl ?_)
          refine q_iast rfl rfl (by decide) rfl (by decide) ?_
          refine q_icc6 (z := 5) rfl rfl rfl rfl rfl ?_
          refine q_goto rfl ?_
          refine q_iload rfl rfl rfl ?_
          refine q_bipush rfl rfl ?_
          refine q_icge rfl rfl (fun c197 => absurd c197 (by decide)) (fun c197 => ?_)
          refine q_aload_n rfl rfl rfl ?_
          refine q_getf rfl rfl (by decide) rfl rfl ?_
          refine q_bipush rfl rfl ?_
          refine q_iload rfl rfl rfl ?_
          refine q_imul rfl rfl (q_tn (z := 0) rfl ?_)
          refine q_iload rfl rfl rfl ?_
          refine q_iadd rfl rfl (q_tn (z := 5) rfl ?_)
          refine q_aload_n rfl rfl rfl ?_
          refine q_getf rfl rfl (by decide) rfl rfl ?_
          refine q_iload rfl rfl rfl ?_
          refine q_iald rfl rfl (by decide) rfl (by decide) (q_tn (z := 0) rfl ?_)
          refine q_iast rfl rfl (by decide) rfl (by decide) ?_
          refine q_icc6 (z := 6) rfl rfl rfl rfl rfl ?_
          refine q_goto rfl ?_
          refine q_iload rfl rfl rfl ?_
          refine q_bipush rfl rfl ?_
          refine q_icge rfl rfl (fun c198 => absurd c198 (by decide)) (fun c198 => ?_)
          refine q_aload_n rfl rfl rfl ?_
          refine q_getf rfl rfl (by decide) rfl rfl ?_
          refine q_bipush rfl rfl ?_
          refine q_iload rfl rfl rfl ?_
          refine q_imul rfl rfl (q_tn (z := 0) rfl ?_)
          refine q_iload rfl rfl rfl ?_
          refine q_iadd rfl rfl (q_tn (z := 6) rfl ?_)
          refine q_aload_n rfl rfl rfl ?_
          refine q_getf rfl rfl (by decide) rfl rfl ?_
          refine q_iload rfl rfl rfl ?_
          refine q_iald rfl rfl (by decide) rfl (by decide) (q_tn (z := 0) rfl ?_)
          refine q_iast rfl rfl (by decide) rfl (by decide) ?_
          refine q_icc6 (z := 7) rfl rfl rfl rfl rfl ?_
          refine q_goto rfl ?_
          refine q_iload rfl rfl rfl ?_
          refine q_bipush rfl rfl ?_
          refine q_icge rfl rfl (fun c199 => absurd c199 (by decide)) (fun c199 => ?_)
          refine q_aload_n rfl rfl rfl ?_
          refine q_getf rfl rfl (by decide) rfl rfl ?_
          refine q_bipush rfl rfl ?_
          refine q_iload rfl rfl rfl ?_
          refine q_imul rfl rfl (q_tn (z := 0) rfl ?_)
          refine q_iload rfl rfl rfl ?_
          refine q_iadd rfl rfl (q_tn (z := 7) rfl ?_)
          refine q_aload_n rfl rfl rfl ?_
          refine q_getf rfl rfl (by decide) rfl rfl ?_
          refine q_iload rfl rfl rfl ?_
          refine q_iald rfl rfl (by decide) rfl (by decide) (q_tn (z := 0) rfl ?_)
          refine q_iast rfl rfl (by decide) rfl (by decide) ?_
          refine q_icc6 (z := 8) rfl rfl rfl rfl rfl ?_
          refine q_goto rfl ?_
          refine q_iload rfl rfl rfl ?_
          refine q_bipush rfl rfl ?_
          refine q_icge rfl rfl (fun c200 => absurd c200 (by decide)) (fun c200 => ?_)
          refine q_aload_n rfl rfl rfl ?_
          refine q_getf rfl rfl (by decide) rfl rfl ?_
          refine q_bipush rfl rfl ?_
          refine q_iload rfl rfl rfl ?_
          refine q_imul rfl rfl (q_tn (z := 0) rfl ?_)
          refine q_iload rfl rfl rfl ?_
          refine q_iadd rfl rfl (q_tn (z := 8) rfl ?_)
          refine q_aload_n rfl rfl rfl ?_
          refine q_getf rfl rfl (by decide) rfl rfl ?_
          refine q_iload rfl rfl rfl ?_
          refine q_iald rfl rfl (by decide) rfl (by decide) (q_tn (z := 0) rfl ?_)
          refine q_iast rfl rfl (by decide) rfl (by decide) ?_
          refine q_icc6 (z := 9) rfl rfl rfl rfl rfl ?_
          refine q_goto rfl ?_
          refine q_iload rfl rfl rfl ?_
          refine q_bipush rfl rfl ?_
          refine q_icge rfl rfl (fun c201 => absurd c201 (by decide)) (fun c201 => ?_)
          refine q_aload_n rfl rfl rfl ?_
          refine q_getf rfl rfl (by decide) rfl rfl ?_
          refine q_bipush rfl rfl ?_
          refine q_iload rfl rfl rfl ?_
          refine q_imul rfl rfl (q_tn (z := 0) rfl ?_)
          refine q_iload rfl rfl rfl ?_
          refine q_iadd rfl rfl (q_tn (z := 9) rfl ?_)
          refine q_aload_n rfl rfl rfl ?_
          refine q_getf rfl rfl (by decide) rfl rfl ?_
          refine q_iload rfl rfl rfl ?_
          refine q_iald rfl rfl (by decide) rfl (by decide) (q_tn (z := 0) rfl ?_)
          refine q_iast rfl rfl (by decide) rfl (by decide) ?_
          refine q_icc6 (z := 10) rfl rfl rfl rfl rfl ?_
          refine q_goto rfl ?_
          refine q_iload rfl rfl rfl ?_
          refine q_bipush rfl rfl ?_
          refine q_icge rfl rfl (fun c202 => absurd c202 (by decide)) (fun c202 => ?_)
          refine q_aload_n rfl rfl rfl ?_
          refine q_getf rfl rfl (by decide) rfl rfl ?_
          refine q_bipush rfl rfl ?_
          refine q_iload rfl rfl rfl ?_
          refine q_imul rfl rfl (q_tn (z := 0) rfl ?_)
          refine q_iload rfl rfl rfl ?_
          refine q_iadd rfl rfl (q_tn (z := 10) rfl ?_)
          refine q_aload_n rfl rfl rfl ?_
          refine q_getf rfl rfl (by decide) rfl rfl ?_
          refine q_iload rfl rfl rfl ?_
          refine q_iald rfl rfl (by decide) rfl (by decide) (q_tn (z := 0) rfl ?_)
          refine q_iast rfl rfl (by decide) rfl (by decide) ?_
          refine q_icc6 (z := 11) rfl rfl rfl rfl rfl ?_
          refine q_goto rfl ?_
          refine q_iload rfl rfl rfl ?_
          refine q_bipush rfl rfl ?_
          refine q_icge rfl rfl (fun c203 => absurd c203 (by decide)) (fun c203 => ?_)
          refine q_aload_n rfl rfl rfl ?_
          refine q_getf rfl rfl (by decide) rfl rfl ?_
          refine q_bipush rfl rfl ?_
          refine q_iload rfl rfl rfl ?_
          refine q_imul rfl rfl (q_tn (z := 0) rfl ?_)
          refine q_iload rfl rfl rfl ?_
          refine q_iadd rfl rfl (q_tn (z := 11) rfl ?_)
          refine q_aload_n rfl rfl rfl ?_
          refine q_getf rfl rfl (by decide) rfl rfl ?_
          refine q_iload rfl rfl rfl ?_
          refine q_iald rfl rfl (by decide) rfl (by decide) (q_tn (z := 0) rfl ?_)
          refine q_iast rfl rfl (by decide) rfl (by decide) ?_
          refine q_icc6 (z := 12) rfl rfl rfl rfl rfl ?_
          refine q_goto rfl ?_
          refine q_iload rfl rfl rfl ?_
          refine q_bipush rfl rfl ?_
          refine q_icge rfl rfl (fun c204 => absurd c204 (by decide)) (fun c204 => ?_)
          refine q_aload_n rfl rfl rfl ?_
          refine q_getf rfl rfl (by decide) rfl rfl ?_
          refine q_bipush rfl rfl ?_
          refine q_iload rfl rfl rfl ?_
          refine q_imul rfl rfl (q_tn (z := 0) rfl ?_)
          refine q_iload rfl rfl rfl ?_
          refine q_iadd rfl rfl (q_tn (z := 12) rfl ?_)
          refine q_aload_n rfl rfl rfl ?_
          refine q_getf rfl rfl (by decide) rfl rfl ?_
          refine q_iload rfl rfl rfl ?_
          refine q_iald rfl rfl (by decide) rfl (by decide) (q_tn (z := 0) rfl ?_)
          refine q_iast rfl rfl (by decide) rfl (by decide) ?_
          refine q_icc6 (z := 13) rfl rfl rfl rfl rfl ?_
          refine q_goto rfl ?_
          refine q_iload rfl rfl rfl ?_
          refine q_bipush rfl rfl ?_
          refine q_icge rfl rfl (fun c205 => absurd c205 (by decide)) (fun c205 => ?_)
          refine q_aload_n rfl rfl rfl ?_
          refine q_getf rfl rfl (by decide) rfl rfl ?_
          refine q_bipush rfl rfl ?_
          refine q_iload rfl rfl rfl ?_
          refine q_imul rfl rfl (q_tn (z := 0) rfl ?_)
          refine q_iload rfl rfl rfl ?_
          refine q_iadd rfl rfl (q_tn (z := 13) rfl ?_)
          refine q_aload_n rfl rfl rfl ?_
          refine q_getf rfl rfl (by decide) rfl rfl ?_
          refine q_iload rfl rfl rfl ?_
          refine q_iald rfl rfl (by decide) rfl (by decide) (q_tn (z := 0) rfl ?_)
          refine q_iast rfl rfl (by decide) rfl (by decide) ?_
          refine q_icc6 (z := 14) rfl rfl rfl rfl rfl ?_
          refine q_goto rfl ?_
          refine q_iload rfl rfl rfl ?_
          refine q_bipush rfl rfl ?_
          refine q_icge rfl rfl (fun c206 => absurd c206 (by decide)) (fun c206 => ?_)
          refine q_aload_n rfl rfl rfl ?_
          refine q_getf rfl rfl (by decide) rfl rfl ?_
          refine q_bipush rfl rfl ?_
          refine q_iload rfl rfl rfl ?_
          refine q_imul rfl rfl (q_tn (z := 0) rfl ?_)
          refine q_iload rfl rfl rfl ?_
          refine q_iadd rfl rfl (q_tn (z := 14) rfl ?_)
          refine q_aload_n rfl rfl rfl ?_
          refine q_getf rfl rfl (by decide) rfl rfl ?_
          refine q_iload rfl rfl rfl ?_
          refine q_iald rfl rfl (by decide) rfl (by decide) (q_tn (z := 0) rfl ?_)
          refine q_iast rfl rfl (by decide) rfl (by decide) ?_
          refine q_icc6 (z := 15) rfl rfl rfl rfl rfl ?_
          refine q_goto rfl ?_
          refine q_iload rfl rfl rfl ?_
          refine q_bipush rfl rfl ?_
          refine q_icge rfl rfl (fun c207 => absurd c207 (by decide)) (fun c207 => ?_)
          refine q_aload_n rfl rfl rfl ?_
          refine q_getf rfl rfl (by decide) rfl rfl ?_
          refine q_bipush rfl rfl ?_
          refine q_iload rfl rfl rfl ?_
          refine q_imul rfl rfl (q_tn (z := 0) rfl ?_)
          refine q_iload rfl rfl rfl ?_
          refine q_iadd rfl rfl (q_tn (z := 15) rfl ?_)
          refine q_aload_n rfl rfl rfl ?_
          refine q_getf rfl rfl (by decide) rfl rfl ?_
          refine q_iload rfl rfl rfl ?_
          refine q_iald rfl rfl (by decide) rfl (by decide) (q_tn (z := 0) rfl ?_)
          refine q_iast rfl rfl (by decide) rfl (by decide) ?_
          refine q_icc6 (z := 16) rfl rfl rfl rfl rfl ?_
          refine q_goto rfl ?_
          refine q_iload rfl rfl rfl ?_
          refine q_bipush rfl rfl ?_
          refine q_icge rfl rfl (fun c208 => absurd c208 (by decide)) (fun c208 => ?_)
          refine q_aload_n rfl rfl rfl ?_
          refine q_getf rfl rfl (by decide) rfl rfl ?_
          refine q_bipush rfl rfl ?_
          refine q_iload rfl rfl rfl ?_
          refine q_imul rfl rfl (q_tn (z := 0) rfl ?_)
          refine q_iload rfl rfl rfl ?_
          refine q_iadd rfl rfl (q_tn (z := 16) rfl ?_)
          refine q_aload_n rfl rfl rfl ?_
          refine q_getf rfl rfl (by decide) rfl rfl ?_
          refine q_iload rfl rfl rfl ?_
          refine q_iald rfl rfl (by decide) rfl (by decide) (q_tn (z := 0) rfl ?_)
          refine q_iast rfl rfl (by decide) rfl (by decide) ?_
          refine q_icc6 (z := 17) rfl rfl rfl rfl rfl ?_
          refine q_goto rfl ?_
          refine q_iload rfl rfl rfl ?_
          refine q_bipush rfl rfl ?_
          refine q_icge rfl rfl (fun c209 => absurd c209 (by decide)) (fun c209 => ?_)
          refine q_aload_n rfl rfl rfl ?_
          refine q_getf rfl rfl (by decide) rfl rfl ?_
          refine q_bipush rfl rfl ?_
          refine q_iload rfl rfl rfl ?_
          refine q_imul rfl rfl (q_tn (z := 0) rfl ?_)
          refine q_iload rfl rfl rfl ?_
          refine q_iadd rfl rfl (q_tn (z := 17) rfl ?_)
          refine q_aload_n rfl rfl rfl ?_
          refine q_getf rfl rfl (by decide) rfl rfl ?_
          refine q_iload rfl rfl rfl ?_
          refine q_iald rfl rfl (by decide) rfl (by decide) (q_tn (z := 0) rfl ?_)
          refine q_iast rfl rfl (by decide) rfl (by decide) ?_
          refine q_icc6 (z := 18) rfl rfl rfl rfl rfl ?_
          refine q_goto rfl ?_
          refine q_iload rfl rfl rfl ?_
          refine q_bipush rfl rfl ?_
          refine q_icge rfl rfl (fun c210 => absurd c210 (by decide)) (fun c210 => ?_)
          refine q_aload_n rfl rfl rfl ?_
          refine q_getf rfl rfl (by decide) rfl rfl ?_
          refine q_bipush rfl rfl ?_
          refine q_iload rfl rfl rfl ?_
          refine q_imul rfl rfl (q_tn (z := 0) rfl ?_)
          refine q_iload rfl rfl rfl ?_
          refine q_iadd rfl rfl (q_tn (z := 18) rfl ?_)
          refine q_aload_n rfl rfl rfl ?_
          refine q_getf rfl rfl (by decide) rfl rfl ?_
          refine q_iload rfl rfl rfl ?_
          refine q_iald rfl rfl (by decide) rfl (by decide) (q_tn (z := 0) rfl ?_)
          refine q_iast rfl rfl (by decide) rfl (by decide) ?_
          refine q_icc6 (z := 19) rfl rfl rfl rfl rfl ?_
          refine q_goto rfl ?_
          refine q_iload rfl rfl rfl ?_
          refine q_bipush rfl rfl ?_
          refine q_icge rfl rfl (fun c211 => absurd c211 (by decide)) (fun c211 => ?_)
          refine q_aload_n rfl rfl rfl ?_
          refine q_getf rfl rfl (by decide) rfl rfl ?_
          refine q_bipush rfl rfl ?_
          refine q_iload rfl rfl rfl ?_
          refine q_imul rfl rfl (q_tn (z := 0) rfl ?_)
          refine q_iload rfl rfl rfl ?_
          refine q_iadd rfl rfl (q_tn (z := 19) rfl ?_)
          refine q_aload_n rfl rfl rfl ?_
          refine q_getf rfl rfl (by decide) rfl rfl ?_
          refine q_iload rfl rfl rfl ?_
          refine q_iald rfl rfl (by decide) rfl (by decide) (q_tn (z := 0) rfl ?_)
          refine q_iast rfl rfl (by decide) rfl (by decide) ?_
          refine q_icc6 (z := 20) rfl rfl rfl rfl rfl ?_
          refine q_goto rfl ?_
          refine q_iload rfl rfl rfl ?_
          refine q_bipush rfl rfl ?_
          refine q_icge rfl rfl (fun c212 => ?_) (fun c212 => absurd (by decide) c212)
          refine q_aload_n rfl rfl rfl ?_
          refine q_getf rfl rfl (by decide) rfl rfl ?_
          refine q_iload rfl rfl rfl ?_
          refine q_iload_n rfl rfl rfl ?_
          refine q_iast rfl rfl (by decide) (FW_56 S hW) (by decide) ?_
          refine q_aload_n rfl rfl rfl ?_
          refine q_getf rfl rfl (by decide) rfl rfl ?_
          refine q_iload rfl rfl rfl ?_
          refine q_iload_n rfl rfl rfl ?_
          refine q_iast rfl rfl (by decide) (FW_57 S hW) (by decide) ?_
          refine q_aload_n rfl rfl rfl ?_
          refine q_iload_n rfl rfl rfl ?_
          refine q_nV1 rfl rfl (Or.inl rfl) rfl rfl rfl (by decide) rfl ⟨rfl, rfl⟩ rfl ?_
          change PQ _ _ _ mm_X12_rest 0 [.ref 46, .int 0, pm_un, pm_un] [] _ _ 0 0 _
          refine q_bipush rfl rfl ?_
          refine q_ist2n rfl rfl rfl rfl ?_
          refine q_iconst rfl rfl ?_
          refine q_ist3n rfl rfl rfl rfl ?_
          refine q_iload_n rfl rfl rfl ?_
          refine q_bipush rfl rfl ?_
          refine q_icge rfl rfl (fun c213 => absurd c213 (by decide)) (fun c213 => ?_)
          refine q_bipush rfl rfl ?_
          refine q_iload_n rfl rfl rfl ?_
          refine q_imul rfl rfl (q_tn (z := 527) rfl ?_)
          refine q_aload_n rfl rfl rfl ?_
          refine q_getf rfl rfl (by decide) rfl rfl ?_
          refine q_iload_n rfl rfl rfl ?_
          refine q_iald rfl rfl (by decide) rfl (by decide) (q_tn (z := 10) rfl ?_)
          refine q_iadd rfl rfl (q_tn (z := 537) rfl ?_)
          refine q_ist2n rfl rfl rfl rfl ?_
          refine q_icc3 (z := 1) rfl rfl rfl rfl rfl ?_
          refine q_goto rfl ?_
          refine q_iload_n rfl rfl rfl ?_
          refine q_bipush rfl rfl ?_
          refine q_icge rfl rfl (fun c214 => absurd c214 (by decide)) (fun c214 => ?_)
          refine q_bipush rfl rfl ?_
          refine q_iload_n rfl rfl rfl ?_
          refine q_imul rfl rfl (q_tn (z := 16647) rfl ?_)
          refine q_aload_n rfl rfl rfl ?_
          refine q_getf rfl rfl (by decide) rfl rfl ?_
          refine q_iload_n rfl rfl rfl ?_
          refine q_iald rfl rfl (by decide) rfl (by decide) (q_tn (z := 0) rfl ?_)
          refine q_iadd rfl rfl (q_tn (z := 16647) rfl ?_)
          refine q_ist2n rfl rfl rfl rfl ?_
          refine q_icc3 (z := 2) rfl rfl rfl rfl rfl ?_
          refine q_goto rfl ?_
          refine q_iload_n rfl rfl rfl ?_
          refine q_bipush rfl rfl ?_
          refine q_icge rfl rfl (fun c215 => absurd c215 (by decide)) (fun c215 => ?_)
          refine q_bipush rfl rfl ?_
          refine q_iload_n rfl rfl rfl ?_
          refine q_imul rfl rfl (q_tn (z := 516057) rfl ?_)
          refine q_aload_n rfl rfl rfl ?_
          refine q_getf rfl rfl (by decide) rfl rfl ?_
          refine q_iload_n rfl rfl rfl ?_
          refine q_iald rfl rfl (by decide) rfl (by decide) (q_tn (z := 0) rfl ?_)
          refine q_iadd rfl rfl (q_tn (z := 516057) rfl ?_)
          refine q_ist2n rfl rfl rfl rfl ?_
          refine q_icc3 (z := 3) rfl rfl rfl rfl rfl ?_
          refine q_goto rfl ?_
          refine q_iload_n rfl rfl rfl ?_
          refine q_bipush rfl rfl ?_
          refine q_icge rfl rfl (fun c216 => absurd c216 (by decide)) (fun c216 => ?_)
          refine q_bipush rfl rfl ?_
          refine q_iload_n rfl rfl rfl ?_
          refine q_imul rfl rfl (q_tn (z := 15997767) rfl ?_)
          refine q_aload_n rfl rfl rfl ?_
          refine q_getf rfl rfl (by decide) rfl rfl ?_
          refine q_iload_n rfl rfl rfl ?_
          refine q_iald rfl rfl (by decide) rfl (by decide) (q_tn (z := 0) rfl ?_)
          refine q_iadd rfl rfl (q_tn (z := 15997767) rfl ?_)
          refine q_ist2n rfl rfl rfl rfl ?_
          refine q_icc3 (z := 4) rfl rfl rfl rfl rfl ?_
          refine q_goto rfl ?_
          refine q_iload_n rfl rfl rfl ?_
          refine q_bipush rfl rfl ?_
          refine q_icge rfl rfl (fun c217 => absurd c217 (by decide)) (fun c217 => ?_)
          refine q_bipush rfl rfl ?_
          refine q_iload_n rfl rfl rfl ?_
          refine q_imul rfl rfl (q_tn (z := 495930777) rfl ?_)
          refine q_aload_n rfl rfl rfl ?_
          refine q_getf rfl rfl (by decide) rfl rfl ?_
          refine q_iload_n rfl rfl rfl ?_
          refine q_iald rfl rfl (by decide) rfl (by decide) (q_tn (z := 0) rfl ?_)
          refine q_iadd rfl rfl (q_tn (z := 495930777) rfl ?_)
          refine q_ist2n rfl rfl rfl rfl ?_
          refine q_icc3 (z := 5) rfl rfl rfl rfl rfl ?_
          refine q_goto rfl ?_
          refine q_iload_n rfl rfl rfl ?_
          refine q_bipush rfl rfl ?_
          refine q_icge rfl rfl (fun c218 => absurd c218 (by decide)) (fun c218 => ?_)
          refine q_bipush rfl rfl ?_
          refine q_iload_n rfl rfl rfl ?_
          refine q_imul rfl rfl (q_tn (z := (-1806015097)) rfl ?_)
          refine q_aload_n rfl rfl rfl ?_
          refine q_getf rfl rfl (by decide) rfl rfl ?_
          refine q_iload_n rfl rfl rfl ?_
          refine q_iald rfl rfl (by decide) rfl (by decide) (q_tn (z := 0) rfl ?_)
          refine q_iadd rfl rfl (q_tn (z := (-1806015097)) rfl ?_)
          refine q_ist2n rfl rfl rfl rfl ?_
          refine q_icc3 (z := 6) rfl rfl rfl rfl rfl ?_
          refine q_goto rfl ?_
          refine q_iload_n rfl rfl rfl ?_
          refine q_bipush rfl rfl ?_
          refine q_icge rfl rfl (fun c219 => absurd c219 (by decide)) (fun c219 => ?_)
          refine q_bipush rfl rfl ?_
          refine q_iload_n rfl rfl rfl ?_
          refine q_imul rfl rfl (q_tn (z := (-151893159)) rfl ?_)
          refine q_aload_n rfl rfl rfl ?_
          refine q_getf rfl rfl (by decide) rfl rfl ?_
          refine q_iload_n rfl rfl rfl ?_
          refine q_iald rfl rfl (by decide) rfl (by decide) (q_tn (z := 0) rfl ?_)
          refine q_iadd rfl rfl (q_tn (z := (-151893159)) rfl ?_)
          refine q_ist2n rfl rfl rfl rfl ?_
          refine q_icc3 (z := 7) rfl rfl rfl rfl rfl ?_
          refine q_goto rfl ?_
          refine q_iload_n rfl rfl rfl ?_
          refine q_bipush rfl rfl ?_
          refine q_icge rfl rfl (fun c220 => absurd c220 (by decide)) (fun c220 => ?_)
          refine q_bipush rfl rfl ?_
          refine q_iload_n rfl rfl rfl ?_
          refine q_imul rfl rfl (q_tn (z := (-413720633)) rfl ?_)
          refine q_aload_n rfl rfl rfl ?_
          refine q_getf rfl rfl (by decide) rfl rfl ?_
          refine q_iload_n rfl rfl rfl ?_
          refine q_iald rfl rfl (by decide) rfl (by decide) (q_tn (z := 0) rfl ?_)
          refine q_iadd rfl rfl (q_tn (z := (-413720633)) rfl ?_)
          refine q_ist2n rfl rfl rfl rfl ?_
          refine q_icc3 (z := 8) rfl rfl rfl rfl rfl ?_
          refine q_goto rfl ?_
          refine q_iload_n rfl rfl rfl ?_
          refine q_bipush rfl rfl ?_
          refine q_icge rfl rfl (fun c221 => absurd c221 (by decide)) (fun c221 => ?_)
          refine q_bipush rfl rfl ?_
          refine q_iload_n rfl rfl rfl ?_
          refine q_imul rfl rfl (q_tn (z := 59562265) rfl ?_)
          refine q_aload_n rfl rfl rfl ?_
          refine q_getf rfl rfl (by decide) rfl rfl ?_
          refine q_iload_n rfl rfl rfl ?_
          refine q_iald rfl rfl (by decide) rfl (by decide) (q_tn (z := 0) rfl ?_)
          refine q_iadd rfl rfl (q_tn (z := 59562265) rfl ?_)
          refine q_ist2n rfl rfl rfl rfl ?_
          refine q_icc3 (z := 9) rfl rfl rfl rfl rfl ?_
          refine q_goto rfl ?_
          refine q_iload_n rfl rfl rfl ?_
          refine q_bipush rfl rfl ?_
          refine q_icge rfl rfl (fun c222 => absurd c222 (by decide)) (fun c222 => ?_)
          refine q_bipush rfl rfl ?_
          refine q_iload_n rfl rfl rfl ?_
          refine q_imul rfl rfl (q_tn (z := 1846430215) rfl ?_)
          refine q_aload_n rfl rfl rfl ?_
          refine q_getf rfl rfl (by decide) rfl rfl ?_
          refine q_iload_n rfl rfl rfl ?_
          refine q_iald rfl rfl (by decide) rfl (by decide) (q_tn (z := 0) rfl ?_)
          refine q_iadd rfl rfl (q_tn (z := 1846430215) rfl ?_)
          refine q_ist2n rfl rfl rfl rfl ?_
          refine q_icc3 (z := 10) rfl rfl rfl rfl rfl ?_
          refine q_goto rfl ?_
          refine q_iload_n rfl rfl rfl ?_
          refine q_bipush rfl rfl ?_
          refine q_icge rfl rfl (fun c223 => absurd c223 (by decide)) (fun c223 => ?_)
          refine q_bipush rfl rfl ?_
          refine q_iload_n rfl rfl rfl ?_
          refine q_imul rfl rfl (q_tn (z := 1404761817) rfl ?_)
          refine q_aload_n rfl rfl rfl ?_
          refine q_getf rfl rfl (by decide) rfl rfl ?_
          refine q_iload_n rfl rfl rfl ?_
          refine q_iald rfl rfl (by decide) rfl (by decide) (q_tn (z := 0) rfl ?_)
          refine q_iadd rfl rfl (q_tn (z := 1404761817) rfl ?_)
          refine q_ist2n rfl rfl rfl rfl ?_
          refine q_icc3 (z := 11) rfl rfl rfl rfl rfl ?_
          refine q_goto rfl ?_
          refine q_iload_n rfl rfl rfl ?_
          refine q_bipush rfl rfl ?_
          refine q_icge rfl rfl (fun c224 => absurd c224 (by decide)) (fun c224 => ?_)
          refine q_bipush rfl rfl ?_
          refine q_iload_n rfl rfl rfl ?_
          refine q_imul rfl rfl (q_tn (z := 597943367) rfl ?_)
          refine q_aload_n rfl rfl rfl ?_
          refine q_getf rfl rfl (by decide) rfl rfl ?_
          refine q_iload_n rfl rfl rfl ?_
          refine q_iald rfl rfl (by decide) rfl (by decide) (q_tn (z := 0) rfl ?_)
          refine q_iadd rfl rfl (q_tn (z := 597943367) rfl ?_)
          refine q_ist2n rfl rfl rfl rfl ?_
          refine q_icc3 (z := 12) rfl rfl rfl rfl rfl ?_
          refine q_goto rfl ?_
          refine q_iload_n rfl rfl rfl ?_
          refine q_bipush rfl rfl ?_
          refine q_icge rfl rfl (fun c225 => absurd c225 (by decide)) (fun c225 => ?_)
          refine q_bipush rfl rfl ?_
          refine q_iload_n rfl rfl rfl ?_
          refine q_imul rfl rfl (q_tn (z := 1356375193) rfl ?_)
          refine q_aload_n rfl rfl rfl ?_
          refine q_getf rfl rfl (by decide) rfl rfl ?_
          refine q_iload_n rfl rfl rfl ?_
          refine q_iald rfl rfl (by decide) rfl (by decide) (q_tn (z := 0) rfl ?_)
          refine q_iadd rfl rfl (q_tn (z := 1356375193) rfl ?_)
          refine q_ist2n rfl rfl rfl rfl ?_
          refine q_icc3 (z := 13) rfl rfl rfl rfl rfl ?_
          refine q_goto rfl ?_
          refine q_iload_n rfl rfl rfl ?_
          refine q_bipush rfl rfl ?_
          refine q_icge rfl rfl (fun c226 => absurd c226 (by decide)) (fun c226 => ?_)
          refine q_bipush rfl rfl ?_
          refine q_iload_n rfl rfl rfl ?_
          refine q_imul rfl rfl (q_tn (z := (-902041977)) rfl ?_)
          refine q_aload_n rfl rfl rfl ?_
          refine q_getf rfl rfl (by decide) rfl rfl ?_
          refine q_iload_n rfl rfl rfl ?_
          refine q_iald rfl rfl (by decide) rfl (by decide) (q_tn (z := 0) rfl ?_)
          refine q_iadd rfl rfl (q_tn (z := (-902041977)) rfl ?_)
          refine q_ist2n rfl rfl rfl rfl ?_
          refine q_icc3 (z := 14) rfl rfl rfl rfl rfl ?_
          refine q_goto rfl ?_
          refine q_iload_n rfl rfl rfl ?_
          refine q_bipush rfl rfl ?_
          refine q_icge rfl rfl (fun c227 => absurd c227 (by decide)) (fun c227 => ?_)
          refine q_bipush rfl rfl ?_
          refine q_iload_n rfl rfl rfl ?_
          refine q_imul rfl rfl (q_tn (z := 2101469785) rfl ?_)
          refine q_aload_n rfl rfl rfl ?_
          refine q_getf rfl rfl (by decide) rfl rfl ?_
          refine q_iload_n rfl rfl rfl ?_
          refine q_iald rfl rfl (by decide) rfl (by decide) (q_tn (z := 0) rfl ?_)
          refine q_iadd rfl rfl (q_tn (z := 2101469785) rfl ?_)
          refine q_ist2n rfl rfl rfl rfl ?_
          refine q_icc3 (z := 15) rfl rfl rfl rfl rfl ?_
          refine q_goto rfl ?_
          refine q_iload_n rfl rfl rfl ?_
          refine q_bipush rfl rfl ?_
          refine q_icge rfl rfl (fun c228 => absurd c228 (by decide)) (fun c228 => ?_)
          refine q_bipush rfl rfl ?_
          refine q_iload_n rfl rfl rfl ?_
          refine q_imul rfl rfl (q_tn (z := 721053895) rfl ?_)
          refine q_aload_n rfl rfl rfl ?_
          refine q_getf rfl rfl (by decide) rfl rfl ?_
          refine q_iload_n rfl rfl rfl ?_
          refine q_iald rfl rfl (by decide) rfl (by decide) (q_tn (z := 0) rfl ?_)
          refine q_iadd rfl rfl (q_tn (z := 721053895) rfl ?_)
          refine q_ist2n rfl rfl rfl rfl ?_
          refine q_icc3 (z := 16) rfl rfl rfl rfl rfl ?_
          refine q_goto rfl ?_
          refine q_iload_n rfl rfl rfl ?_
          refine q_bipush rfl rfl ?_
          refine q_icge rfl rfl (fun c229 => absurd c229 (by decide)) (fun c229 => ?_)
          refine q_bipush rfl rfl ?_
          refine q_iload_n rfl rfl rfl ?_
          refine q_imul rfl rfl (q_tn (z := 877834265) rfl ?_)
          refine q_aload_n rfl rfl rfl ?_
          refine q_getf rfl rfl (by decide) rfl rfl ?_
          refine q_iload_n rfl rfl rfl ?_
          refine q_iald rfl rfl (by decide) rfl (by decide) (q_tn (z := 0) rfl ?_)
          refine q_iadd rfl rfl (q_tn (z := 877834265) rfl ?_)
          refine q_ist2n rfl rfl rfl rfl ?_
          refine q_icc3 (z := 17) rfl rfl rfl rfl rfl ?_
          refine q_goto rfl ?_
          refine q_iload_n rfl rfl rfl ?_
          refine q_bipush rfl rfl ?_
          refine q_icge rfl rfl (fun c230 => absurd c230 (by decide)) (fun c230 => ?_)
          refine q_bipush rfl rfl ?_
          refine q_iload_n rfl rfl rfl ?_
          refine q_imul rfl rfl (q_tn (z := 1443058439) rfl ?_)
          refine q_aload_n rfl rfl rfl ?_
          refine q_getf rfl rfl (by decide) rfl rfl ?_
          refine q_iload_n rfl rfl rfl ?_
          refine q_iald rfl rfl (by decide) rfl (by decide) (q_tn (z := 0) rfl ?_)
          refine q_iadd rfl rfl (q_tn (z := 1443058439) rfl ?_)
          refine q_ist2n rfl rfl rfl rfl ?_
          refine q_icc3 (z := 18) rfl rfl rfl rfl rfl ?_
          refine q_goto rfl ?_
          refine q_iload_n rfl rfl rfl ?_
          refine q_bipush rfl rfl ?_
          refine q_icge rfl rfl (fun c231 => absurd c231 (by decide)) (fun c231 => ?_)
          refine q_bipush rfl rfl ?_
          refine q_iload_n rfl rfl rfl ?_
          refine q_imul rfl rfl (q_tn (z := 1785138649) rfl ?_)
          refine q_aload_n rfl rfl rfl ?_
          refine q_getf rfl rfl (by decide) rfl rfl ?_
          refine q_iload_n rfl rfl rfl ?_
          refine q_iald rfl rfl (by decide) rfl (by decide) (q_tn (z := 0) rfl ?_)
          refine q_iadd rfl rfl (q_tn (z := 1785138649) rfl ?_)
          refine q_ist2n rfl rfl rfl rfl ?_
          refine q_icc3 (z := 19) rfl rfl rfl rfl rfl ?_
          refine q_goto rfl ?_
          refine q_iload_n rfl rfl rfl ?_
          refine q_bipush rfl rfl ?_
          refine q_icge rfl rfl (fun c232 => absurd c232 (by decide)) (fun c232 => ?_)
          refine q_bipush rfl rfl ?_
          refine q_iload_n rfl rfl rfl ?_
          refine q_imul rfl rfl (q_tn (z := (-495276729)) rfl ?_)
          refine q_aload_n rfl rfl rfl ?_
          refine q_getf rfl rfl (by decide) rfl rfl ?_
          refine q_iload_n rfl rfl rfl ?_
          refine q_iald rfl rfl (by decide) rfl (by decide) (q_tn (z := 0) rfl ?_)
          refine q_iadd rfl rfl (q_tn (z := (-495276729)) rfl ?_)
          refine q_ist2n rfl rfl rfl rfl ?_
          refine q_icc3 (z := 20) rfl rfl rfl rfl rfl ?_
          refine q_goto rfl ?_
          refine q_iload_n rfl rfl rfl ?_
          refine q_bipush rfl rfl ?_
          refine q_icge rfl rfl (fun c233 => ?_) (fun c233 => absurd (by decide) c233)
          refine q_sipush rfl rfl ?_
          refine q_iload_n rfl rfl rfl ?_
          refine q_imul rfl rfl (q_tn (z := 0) rfl ?_)
          refine q_iload_n rfl rfl rfl ?_
          refine q_iload_n rfl rfl rfl ?_
          refine q_bipush rfl rfl ?_
          refine q_iushr rfl rfl (q_tn (z := 463829) rfl ?_)
          refine q_ixor rfl rfl (q_tn (z := (-495075694)) rfl ?_)
          refine q_sipush rfl rfl ?_
          refine q_irem rfl rfl (by decide) (q_tn (z := (-366)) rfl ?_)
          refine q_iload_n rfl rfl rfl ?_
          refine q_iload_n rfl rfl rfl ?_
          refine q_bipush rfl rfl ?_
          refine q_iushr rfl rfl (q_tn (z := 463829) rfl ?_)
          refine q_ixor rfl rfl (q_tn (z := (-495075694)) rfl ?_)
          refine q_sipush rfl rfl ?_
          refine q_irem rfl rfl (by decide) (q_tn (z := (-366)) rfl ?_)
          refine q_ifge rfl rfl (fun c234 => absurd c234 (by decide)) (fun c234 => ?_)
          refine q_iconst rfl rfl ?_
          refine q_goto rfl ?_
          refine q_imul rfl rfl (q_tn (z := 366) rfl ?_)
          refine q_iadd rfl rfl (q_tn (z := 366) rfl ?_)
          refine q_iret rfl rfl trivial ?_
          refine ⟨_, rfl, ?_⟩
          refine q_ist6 rfl rfl rfl rfl ?_
          refine q_aload_n rfl rfl rfl ?_
          refine q_getf rfl rfl (by decide) rfl rfl ?_
          refine q_iload rfl rfl rfl ?_
          refine q_aload_n rfl rfl rfl ?_
          refine q_getf rfl rfl (by decide) rfl rfl ?_
          refine q_iload rfl rfl rfl ?_
          refine q_iald rfl rfl (by decide) rfl (by decide) (q_tn (z := (-1)) rfl ?_)
          refine q_iast rfl rfl (by decide) (FW_58 S hW) (by decide) ?_
          refine q_aload_n rfl rfl rfl ?_
          refine q_getf rfl rfl (by decide) rfl rfl ?_
          refine q_iload rfl rfl rfl ?_
          refine q_iload rfl rfl rfl ?_
          refine q_iast rfl rfl (by decide) rfl (by decide) ?_
          refine q_aload_n rfl rfl rfl ?_
          refine q_getf rfl rfl (by decide) rfl rfl ?_
          refine q_iload_n rfl rfl rfl ?_
          refine q_dup2 rfl rfl ?_
          refine q_iald rfl rfl (by decide) rfl (by decide) (q_tn (z := 0) rfl ?_)
          refine q_iconst rfl rfl ?_
          refine q_iadd rfl rfl (q_tn (z := 1) rfl ?_)
          refine q_iast rfl rfl (by decide) rfl (by decide) ?_
          refine q_iload rfl rfl rfl ?_
          refine q_iret rfl rfl trivial ?_
          refine ⟨_, rfl, ?_⟩
          refine q_ist3n rfl rfl rfl rfl ?_
          refine q_iconst rfl rfl ?_
          refine q_ist4 rfl rfl rfl rfl ?_
          refine q_iload rfl rfl rfl ?_
          refine q_aload_n rfl rfl rfl ?_
          refine q_getf rfl rfl (by decide) rfl rfl ?_
          refine q_iload_n rfl rfl rfl ?_
          refine q_iald rfl rfl (by decide) rfl (by decide) (q_tn (z := 1) rfl ?_)
          refine q_icge rfl rfl (fun c235 => absurd c235 (by decide)) (fun c235 => ?_)
          refine q_iconst rfl rfl ?_
          refine q_ist5 rfl rfl rfl rfl ?_
          refine q_iload rfl rfl rfl ?_
          refine q_iconst rfl rfl ?_
          refine q_icge rfl rfl (fun c236 => absurd c236 (by decide)) (fun c236 => ?_)
          refine q_iconst rfl rfl ?_
          refine q_sipush rfl rfl ?_
          refine q_iload_n rfl rfl rfl ?_
          refine q_imul rfl rfl (q_tn (z := 0) rfl ?_)
          refine q_iload rfl rfl rfl ?_
          refine q_iadd rfl rfl (q_tn (z := 0) rfl ?_)
          refine q_imul rfl rfl (q_tn (z := 0) rfl ?_)
          refine q_iload rfl rfl rfl ?_
          refine q_iadd rfl rfl (q_tn (z := 0) rfl ?_)
          refine q_ist6 rfl rfl rfl rfl ?_
          refine q_aload_n rfl rfl rfl ?_
          refine q_getf rfl rfl (by decide) rfl rfl ?_
          refine q_iload rfl rfl rfl ?_
          refine q_iconst rfl rfl ?_
          refine q_iast rfl rfl (by decide) (FW_59 S hW) (by decide) ?_
          refine q_aload_n rfl rfl rfl ?_
          refine q_iload_n rfl rfl rfl ?_
          refine q_iload rfl rfl rfl ?_
          refine q_cV2v rfl rfl (Or.inl rfl) rfl rfl rfl (by decide) rfl ⟨rfl, rfl⟩ rfl (fun K' hK' => l_sa (R := 0) (by decide) rfl (by decide) rfl rfl rfl rfl rfl hK') ?_
          refine q_iload rfl rfl rfl ?_
          refine q_aload_n rfl rfl rfl ?_
          refine q_getf rfl rfl (by decide) rfl rfl ?_
          refine q_icge rfl rfl (fun c237 => absurd c237 (by decide)) (fun c237 => ?_)
          refine q_aload_n rfl rfl rfl ?_
          refine q_iload rfl rfl rfl ?_
          refine q_iload_n rfl rfl rfl ?_
          refine q_nV2 rfl rfl (Or.inl rfl) rfl rfl rfl (by decide) rfl ⟨rfl, rfl⟩ rfl ?_
          change PQ _ _ _ mm_X12_maySteps 0 [.ref 46, .int 0, .int 0, pm_un, pm_un, pm_un] [] _ _ 0 0 _
          refine q_aload_n rfl rfl rfl ?_
          refine q_iload_n rfl rfl rfl ?_
          refine q_iload_n rfl rfl rfl ?_
          refine q_nV2 rfl rfl (Or.inl rfl) rfl rfl rfl (by decide) rfl ⟨rfl, rfl⟩ rfl ?_
          change PQ _ _ _ mm_X12_canStep 0 [.ref 46, .int 0, .int 0, pm_un] [] _ _ 0 0 _
          refine q_aload_n rfl rfl rfl ?_
          refine q_iload_n rfl rfl rfl ?_
          refine q_nV1 rfl rfl (Or.inl rfl) rfl rfl rfl (by decide) rfl ⟨rfl, rfl⟩ rfl ?_
          change PQ _ _ _ mm_X12_isOver 0 [.ref 46, .int 0] [] _ _ 0 0 _
          refine q_aload_n rfl rfl rfl ?_
          refine q_getf rfl rfl (by decide) rfl rfl ?_
          refine q_iconst rfl rfl ?_
          refine q_iload_n rfl rfl rfl ?_
          refine q_imul rfl rfl (q_tn (z := 0) rfl ?_)
          refine q_iald rfl rfl (by decide) rfl (by decide) (q_tn (z := 10) rfl ?_)
          refine q_bipush rfl rfl ?_
          refine q_iclt rfl rfl (fun c238 => absurd c238 (by decide)) (fun c238 => ?_)
          refine q_iconst rfl rfl ?_
          refine q_goto rfl ?_
          refine q_iret rfl rfl rfl ?_
          refine ⟨_, rfl, ?_⟩
          refine q_ifeq rfl rfl (fun c239 => absurd c239 (by decide)) (fun c239 => ?_)
          refine q_iconst rfl rfl ?_
          refine q_iret rfl rfl rfl ?_
          refine ⟨_, rfl, ?_⟩
          refine q_ifne rfl rfl (fun c240 => ?_) (fun c240 => absurd (by decide) c240)
          refine q_iconst rfl rfl ?_
          refine q_iret rfl rfl rfl ?_
          refine ⟨_, rfl, ?_⟩
          refine q_ifne rfl rfl (fun c241 => ?_) (fun c241 => absurd (by decide) c241)
          refine q_goto rfl ?_
          refine q_icc5 (z := 1) rfl rfl rfl rfl rfl ?_
          refine q_goto rfl ?_
          refine q_iload rfl rfl rfl ?_
          refine q_iconst rfl rfl ?_
          refine q_icge rfl rfl (fun c242 => absurd c242 (by decide)) (fun c242 => ?_)
          refine q_iconst rfl rfl ?_
          refine q_sipush rfl rfl ?_
          refine q_iload_n rfl rfl rfl ?_
          refine q_imul rfl rfl (q_tn (z := 0) rfl ?_)
          refine q_iload rfl rfl rfl ?_
          refine q_iadd rfl rfl (q_tn (z := 0) rfl ?_)
          refine q_imul rfl rfl (q_tn (z := 0) rfl ?_)
          refine q_iload rfl rfl rfl ?_
          refine q_iadd rfl rfl (q_tn (z := 1) rfl ?_)
          refine q_ist6 rfl rfl rfl rfl ?_
          refine q_aload_n rfl rfl rfl ?_
          refine q_getf rfl rfl (by decide) rfl rfl ?_
          refine q_iload rfl rfl rfl ?_
          refine q_iconst rfl rfl ?_
          refine q_iast rfl rfl (by decide) rfl (by decide) ?_
          refine q_aload_n rfl rfl rfl ?_
          refine q_iload_n rfl rfl rfl ?_
          refine q_iload rfl rfl rfl ?_
          refine q_cV2v rfl rfl (Or.inl rfl) rfl rfl rfl (by decide) rfl ⟨rfl, rfl⟩ rfl (fun K' hK' => l_sa (R := 0) (by decide) rfl (by decide) rfl rfl rfl rfl rfl hK') ?_
          refine q_iload rfl rfl rfl ?_
          refine q_aload_n rfl rfl rfl ?_
          refine q_getf rfl rfl (by decide) rfl rfl ?_
          refine q_icge rfl rfl (fun c243 => ?_) (fun c243 => absurd (by decide) c243)
          refine q_icc5 (z := 2) rfl rfl rfl rfl rfl ?_
          refine q_goto rfl ?_
          refine q_iload rfl rfl rfl ?_
          refine q_iconst rfl rfl ?_
          refine q_icge rfl rfl (fun c244 => absurd c244 (by decide)) (fun c244 => ?_)
          refine q_iconst rfl rfl ?_
          refine q_sipush rfl rfl ?_
          refine q_iload_n rfl rfl rfl ?_
          refine q_imul rfl rfl (q_tn (z := 0) rfl ?_)
          refine q_iload rfl rfl rfl ?_
          refine q_iadd rfl rfl (q_tn (z := 0) rfl ?_)
          refine q_imul rfl rfl (q_tn (z := 0) rfl ?_)
          refine q_iload rfl rfl rfl ?_
          refine q_iadd rfl rfl (q_tn (z := 2) rfl ?_)
          refine q_ist6 rfl rfl rfl rfl ?_
          refine q_aload_n rfl rfl rfl ?_
          refine q_getf rfl rfl (by decide) rfl rfl ?_
          refine q_iload rfl rfl rfl ?_
          refine q_iconst rfl rfl ?_
          refine q_iast rfl rfl (by decide) rfl (by decide) ?_
          refine q_aload_n rfl rfl rfl ?_
          refine q_iload_n rfl rfl rfl ?_
          refine q_iload rfl rfl rfl ?_
          refine q_cV2v rfl rfl (Or.inl rfl) rfl rfl rfl (by decide) rfl ⟨rfl, rfl⟩ rfl (fun K' hK' => l_sa (R := 0) (by decide) rfl (by decide) rfl rfl rfl rfl rfl hK') ?_
          refine q_iload rfl rfl rfl ?_
          refine q_aload_n rfl rfl rfl ?_
          refine q_getf rfl rfl (by decide) rfl rfl ?_
          refine q_icge rfl rfl (fun c245 => ?_) (fun c245 => absurd (by decide) c245)
          refine q_icc5 (z := 3) rfl rfl rfl rfl rfl ?_
          refine q_goto rfl ?_
          refine q_iload rfl rfl rfl ?_
          refine q_iconst rfl rfl ?_
          refine q_icge rfl rfl (fun c246 => ?_) (fun c246 => absurd (by decide) c246)
          refine q_icc4 (z := 1) rfl rfl rfl rfl rfl ?_
          refine q_goto rfl ?_
          refine q_iload rfl rfl rfl ?_
          refine q_aload_n rfl rfl rfl ?_
          refine q_getf rfl rfl (by decide) rfl rfl ?_
          refine q_iload_n rfl rfl rfl ?_
          refine q_iald rfl rfl (by decide) rfl (by decide) (q_tn (z := 1) rfl ?_)
          refine q_icge rfl rfl (fun c247 => ?_) (fun c247 => absurd (by decide) c247)
          refine q_iconst rfl rfl ?_
          refine q_iret rfl rfl rfl ?_
          refine ⟨_, rfl, ?_⟩
          refine q_ifeq rfl rfl (fun c248 => absurd c248 (by decide)) (fun c248 => ?_)
          refine q_iconst rfl rfl ?_
          refine q_goto rfl ?_
          refine q_iast rfl rfl (by decide) (FW_62 S hW) (by decide) ?_
          refine q_iload_n rfl rfl rfl ?_
          refine q_ifne rfl rfl (fun c249 => ?_) (fun c249 => absurd (by decide) c249)
          refine q_aload_n rfl rfl rfl ?_
          refine q_iconst rfl rfl ?_
          refine q_putf rfl rfl (by decide) rfl (by decide) rfl rfl ?_
          refine q_aload_n rfl rfl rfl ?_
          refine q_getf rfl rfl (by decide) rfl rfl ?_
          refine q_iload_n rfl rfl rfl ?_
          refine q_aload_n rfl rfl rfl ?_
          refine q_getf rfl rfl (by decide) rfl rfl ?_
          refine q_iload_n rfl rfl rfl ?_
          refine q_iald rfl rfl (by decide) rfl (by decide) (q_tn (z := 1) rfl ?_)
          refine q_iast rfl rfl (by decide) (FW_63 S hW) (by decide) ?_
          refine q_iconst rfl rfl ?_
          refine q_ist3n rfl rfl rfl rfl ?_
          refine q_iload_n rfl rfl rfl ?_
          refine q_iconst rfl rfl ?_
          refine q_icge rfl rfl (fun c250 => absurd c250 (by decide)) (fun c250 => ?_)
          refine q_aload_n rfl rfl rfl ?_
          refine q_getf rfl rfl (by decide) rfl rfl ?_
          refine q_iconst rfl rfl ?_
          refine q_iload_n rfl rfl rfl ?_
          refine q_imul rfl rfl (q_tn (z := 0) rfl ?_)
          refine q_iload_n rfl rfl rfl ?_
          refine q_iadd rfl rfl (q_tn (z := 0) rfl ?_)
          refine q_iconst rfl rfl ?_
          refine q_iast rfl rfl (by decide) (FW_64 S hW) (by decide) ?_
          refine q_icc3 (z := 1) rfl rfl rfl rfl rfl ?_
          refine q_goto rfl ?_
          refine q_iload_n rfl rfl rfl ?_
          refine q_iconst rfl rfl ?_
          refine q_icge rfl rfl (fun c251 => absurd c251 (by decide)) (fun c251 => ?_)
          refine q_aload_n rfl rfl rfl ?_
          refine q_getf rfl rfl (by decide) rfl rfl ?_
          refine q_iconst rfl rfl ?_
          refine q_iload_n rfl rfl rfl ?_
          refine q_imul rfl rfl (q_tn (z := 0) rfl ?_)
          refine q_iload_n rfl rfl rfl ?_
          refine q_iadd rfl rfl (q_tn (z := 1) rfl ?_)
          refine q_iconst rfl rfl ?_
          refine q_iast rfl rfl (by decide) rfl (by decide) ?_
          refine q_icc3 (z := 2) rfl rfl rfl rfl rfl ?_
          refine q_goto rfl ?_
          refine q_iload_n rfl rfl rfl ?_
          refine q_iconst rfl rfl ?_
          refine q_icge rfl rfl (fun c252 => absurd c252 (by decide)) (fun c252 => ?_)
          refine q_aload_n rfl rfl rfl ?_
          refine q_getf rfl rfl (by decide) rfl rfl ?_
          refine q_iconst rfl rfl ?_
          refine q_iload_n rfl rfl rfl ?_
          refine q_imul rfl rfl (q_tn (z := 0) rfl ?_)
          refine q_iload_n rfl rfl rfl ?_
          refine q_iadd rfl rfl (q_tn (z := 2) rfl ?_)
          refine q_iconst rfl rfl ?_
          refine q_iast rfl rfl (by decide) rfl (by decide) ?_
          refine q_icc3 (z := 3) rfl rfl rfl rfl rfl ?_
          refine q_goto rfl ?_
          refine q_iload_n rfl rfl rfl ?_
          refine q_iconst rfl rfl ?_
          refine q_icge rfl rfl (fun c253 => absurd c253 (by decide)) (fun c253 => ?_)
          refine q_aload_n rfl rfl rfl ?_
          refine q_getf rfl rfl (by decide) rfl rfl ?_
          refine q_iconst rfl rfl ?_
          refine q_iload_n rfl rfl rfl ?_
          refine q_imul rfl rfl (q_tn (z := 0) rfl ?_)
          refine q_iload_n rfl rfl rfl ?_
          refine q_iadd rfl rfl (q_tn (z := 3) rfl ?_)
          refine q_iconst rfl rfl ?_
          refine q_iast rfl rfl (by decide) rfl (by decide) ?_
          refine q_icc3 (z := 4) rfl rfl rfl rfl rfl ?_
          refine q_goto rfl ?_
          refine q_iload_n rfl rfl rfl ?_
          refine q_iconst rfl rfl ?_
          refine q_icge rfl rfl (fun c254 => ?_) (fun c254 => absurd (by decide) c254)
          refine q_iconst rfl rfl ?_
          refine q_ist3n rfl rfl rfl rfl ?_
          refine q_iload_n rfl rfl rfl ?_
          refine q_aload_n rfl rfl rfl ?_
          refine q_getf rfl rfl (by decide) rfl rfl ?_
          refine q_iload_n rfl rfl rfl ?_
          refine q_iald rfl rfl (by decide) rfl (by decide) (q_tn (z := 1) rfl ?_)
          refine q_icge rfl rfl (fun c255 => absurd c255 (by decide)) (fun c255 => ?_)
          refine q_aload_n rfl rfl rfl ?_
          refine q_iload_n rfl rfl rfl ?_
          refine q_iload_n rfl rfl rfl ?_
          refine q_cV2v rfl rfl (Or.inl rfl) rfl rfl rfl (by decide) rfl ⟨rfl, rfl⟩ rfl (fun K' hK' => l_sa (R := 0) (by decide) rfl (by decide) rfl rfl rfl rfl rfl hK') ?_
          refine q_aload_n rfl rfl rfl ?_
          refine q_nV0 rfl rfl (Or.inl rfl) rfl rfl rfl (by decide) rfl ⟨rfl, rfl⟩ rfl ?_
          change PQ _ _ _ mm_X12_isEnd 0 [.ref 46, pm_un, pm_un] [] _ _ 0 0 _
          refine q_iconst rfl rfl ?_
          refine q_ist1n rfl rfl rfl rfl ?_
          refine q_iconst rfl rfl ?_
          refine q_ist2n rfl rfl rfl rfl ?_
          refine q_iload_n rfl rfl rfl ?_
          refine q_aload_n rfl rfl rfl ?_
          refine q_getf rfl rfl (by decide) rfl rfl ?_
          refine q_icge rfl rfl (fun c256 => absurd c256 (by decide)) (fun c256 => ?_)
          refine q_iload_n rfl rfl rfl ?_
          refine q_ifeq rfl rfl (fun c257 => absurd c257 (by decide)) (fun c257 => ?_)
          refine q_aload_n rfl rfl rfl ?_
          refine q_iload_n rfl rfl rfl ?_
          refine q_nV1 rfl rfl (Or.inl rfl) rfl rfl rfl (by decide) rfl ⟨rfl, rfl⟩ rfl ?_
          change PQ _ _ _ mm_X12_isOver 0 [.ref 46, .int 0] [] _ _ 0 0 _
          refine q_aload_n rfl rfl rfl ?_
          refine q_getf rfl rfl (by decide) rfl rfl ?_
          refine q_iconst rfl rfl ?_
          refine q_iload_n rfl rfl rfl ?_
          refine q_imul rfl rfl (q_tn (z := 0) rfl ?_)
          refine q_iald rfl rfl (by decide) rfl (by decide) (q_tn (z := 10) rfl ?_)
          refine q_bipush rfl rfl ?_
          refine q_iclt rfl rfl (fun c258 => absurd c258 (by decide)) (fun c258 => ?_)
          refine q_iconst rfl rfl ?_
          refine q_goto rfl ?_
          refine q_iret rfl rfl rfl ?_
          refine ⟨_, rfl, ?_⟩
          refine q_ifeq rfl rfl (fun c259 => absurd c259 (by decide)) (fun c259 => ?_)
          refine q_iconst rfl rfl ?_
          refine q_goto rfl ?_
          refine q_ist1n rfl rfl rfl rfl ?_
          refine q_icc2 (z := 1) rfl rfl rfl rfl rfl ?_
          refine q_goto rfl ?_
          refine q_iload_n rfl rfl rfl ?_
          refine q_aload_n rfl rfl rfl ?_
          refine q_getf rfl rfl (by decide) rfl rfl ?_
          refine q_icge rfl rfl (fun c260 => ?_) (fun c260 => absurd (by decide) c260)
          refine q_iload_n rfl rfl rfl ?_
          refine q_iret rfl rfl rfl ?_
          refine ⟨_, rfl, ?_⟩
          refine q_ifne rfl rfl (fun c261 => absurd c261 (by decide)) (fun c261 => ?_)
          refine q_iconst rfl rfl ?_
          refine q_ist4 rfl rfl rfl rfl ?_
          refine q_iload rfl rfl rfl ?_
          refine q_iconst rfl rfl ?_
          refine q_icge rfl rfl (fun c262 => absurd c262 (by decide)) (fun c262 => ?_)
          refine q_aload_n rfl rfl rfl ?_
          refine q_getf rfl rfl (by decide) rfl rfl ?_
          refine q_iconst rfl rfl ?_
          refine q_iload_n rfl rfl rfl ?_
          refine q_imul rfl rfl (q_tn (z := 0) rfl ?_)
          refine q_iload rfl rfl rfl ?_
          refine q_iadd rfl rfl (q_tn (z := 0) rfl ?_)
          refine q_dup2 rfl rfl ?_
          refine q_iald rfl rfl (by decide) rfl (by decide) (q_tn (z := 0) rfl ?_)
          refine q_iconst rfl rfl ?_
          refine q_aload_n rfl rfl rfl ?_
          refine q_getf rfl rfl (by decide) rfl rfl ?_
          refine q_bipush rfl rfl ?_
          refine q_iload rfl rfl rfl ?_
          refine q_iadd rfl rfl (q_tn (z := 12) rfl ?_)
          refine q_iald rfl rfl (by decide) rfl (by decide) (q_tn (z := 0) rfl ?_)
          refine q_ishl rfl rfl (q_tn (z := 1) rfl ?_)
          refine q_ior rfl rfl (q_tn (z := 1) rfl ?_)
          refine q_iast rfl rfl (by decide) rfl (by decide) ?_
          refine q_icc4 (z := 1) rfl rfl rfl rfl rfl ?_
          refine q_goto rfl ?_
          refine q_iload rfl rfl rfl ?_
          refine q_iconst rfl rfl ?_
          refine q_icge rfl rfl (fun c263 => absurd c263 (by decide)) (fun c263 => ?_)
          refine q_aload_n rfl rfl rfl ?_
          refine q_getf rfl rfl (by decide) rfl rfl ?_
          refine q_iconst rfl rfl ?_
          refine q_iload_n rfl rfl rfl ?_
          refine q_imul rfl rfl (q_tn (z := 0) rfl ?_)
          refine q_iload rfl rfl rfl ?_
          refine q_iadd rfl rfl (q_tn (z := 1) rfl ?_)
          refine q_dup2 rfl rfl ?_
          refine q_iald rfl rfl (by decide) rfl (by decide) (q_tn (z := 0) rfl ?_)
          refine q_iconst rfl rfl ?_
          refine q_aload_n rfl rfl rfl ?_
          refine q_getf rfl rfl (by decide) rfl rfl ?_
          refine q_bipush rfl rfl ?_
          refine q_iload rfl rfl rfl ?_
          refine q_iadd rfl rfl (q_tn (z := 13) rfl ?_)
          refine q_iald rfl rfl (by decide) rfl (by decide) (q_tn (z := 0) rfl ?_)
          refine q_ishl rfl rfl (q_tn (z := 1) rfl ?_)
          refine q_ior rfl rfl (q_tn (z := 1) rfl ?_)
          refine q_iast rfl rfl (by decide) rfl (by decide) ?_
          refine q_icc4 (z := 2) rfl rfl rfl rfl rfl ?_
          refine q_goto rfl ?_
          refine q_iload rfl rfl rfl ?_
          refine q_iconst rfl rfl ?_
          refine q_icge rfl rfl (fun c264 => absurd c264 (by decide)) (fun c264 => ?_)
          refine q_aload_n rfl rfl rfl ?_
          refine q_getf rfl rfl (by decide) rfl rfl ?_
          refine q_iconst rfl rfl ?_
          refine q_iload_n rfl rfl rfl ?_
          refine q_imul rfl rfl (q_tn (z := 0) rfl ?_)
          refine q_iload rfl rfl rfl ?_
          refine q_iadd rfl rfl (q_tn (z := 2) rfl ?_)
          refine q_dup2 rfl rfl ?_
          refine q_iald rfl rfl (by decide) rfl (by decide) (q_tn (z := 0) rfl ?_)
          refine q_iconst rfl rfl ?_
          refine q_aload_n rfl rfl rfl ?_
          refine q_getf rfl rfl (by decide) rfl rfl ?_
          refine q_bipush rfl rfl ?_
          refine q_iload rfl rfl rfl ?_
          refine q_iadd rfl rfl (q_tn (z := 14) rfl ?_)
          refine q_iald rfl rfl (by decide) rfl (by decide) (q_tn (z := 0) rfl ?_)
          refine q_ishl rfl rfl (q_tn (z := 1) rfl ?_)
          refine q_ior rfl rfl (q_tn (z := 1) rfl ?_)
          refine q_iast rfl rfl (by decide) rfl (by decide) ?_
          refine q_icc4 (z := 3) rfl rfl rfl rfl rfl ?_
          refine q_goto rfl ?_
          refine q_iload rfl rfl rfl ?_
          refine q_iconst rfl rfl ?_
          refine q_icge rfl rfl (fun c265 => absurd c265 (by decide)) (fun c265 => ?_)
          refine q_aload_n rfl rfl rfl ?_
          refine q_getf rfl rfl (by decide) rfl rfl ?_
          refine q_iconst rfl rfl ?_
          refine q_iload_n rfl rfl rfl ?_
          refine q_imul rfl rfl (q_tn (z := 0) rfl ?_)
          refine q_iload rfl rfl rfl ?_
          refine q_iadd rfl rfl (q_tn (z := 3) rfl ?_)
          refine q_dup2 rfl rfl ?_
          refine q_iald rfl rfl (by decide) rfl (by decide) (q_tn (z := 0) rfl ?_)
          refine q_iconst rfl rfl ?_
          refine q_aload_n rfl rfl rfl ?_
          refine q_getf rfl rfl (by decide) rfl rfl ?_
          refine q_bipush rfl rfl ?_
          refine q_iload rfl rfl rfl ?_
          refine q_iadd rfl rfl (q_tn (z := 15) rfl ?_)
          refine q_iald rfl rfl (by decide) rfl (by decide) (q_tn (z := 0) rfl ?_)
          refine q_ishl rfl rfl (q_tn (z := 1) rfl ?_)
          refine q_ior rfl rfl (q_tn (z := 1) rfl ?_)
          refine q_iast rfl rfl (by decide) rfl (by decide) ?_
          refine q_icc4 (z := 4) rfl rfl rfl rfl rfl ?_
          refine q_goto rfl ?_
          refine q_iload rfl rfl rfl ?_
          refine q_iconst rfl rfl ?_
          refine q_icge rfl rfl (fun c266 => ?_) (fun c266 => absurd (by decide) c266)
          refine q_icc3 (z := 1) rfl rfl rfl rfl rfl ?_
          refine q_goto rfl ?_
          refine q_iload_n rfl rfl rfl ?_
          refine q_aload_n rfl rfl rfl ?_
          refine q_getf rfl rfl (by decide) rfl rfl ?_
          refine q_iload_n rfl rfl rfl ?_
          refine q_iald rfl rfl (by decide) rfl (by decide) (q_tn (z := 1) rfl ?_)
          refine q_icge rfl rfl (fun c267 => ?_) (fun c267 => absurd (by decide) c267)
          refine q_aload_n rfl rfl rfl ?_
          refine q_getf rfl rfl (by decide) rfl rfl ?_
          refine q_iload_n rfl rfl rfl ?_
          refine q_iald rfl rfl (by decide) rfl (by decide) (q_tn (z := 1) rfl ?_)
          refine q_iconst rfl rfl ?_
          refine q_icne rfl rfl (fun c268 => absurd c268 (by decide)) (fun c268 => ?_)
          refine q_iconst rfl rfl ?_
          refine q_iret rfl rfl rfl ?_
          refine ⟨_, rfl, ?_⟩
          refine q_ifeq rfl rfl (fun c269 => ?_) (fun c269 => absurd (by decide) c269)
          refine q_iload_n rfl rfl rfl ?_
          refine q_iconst rfl rfl ?_
          refine q_icne rfl rfl (fun c270 => ?_) (fun c270 => absurd (by decide) c270)
          refine q_aload_n rfl rfl rfl ?_
          refine q_nV0v rfl rfl (Or.inl rfl) rfl rfl rfl (by decide) rfl ⟨rfl, rfl⟩ rfl ?_
          change PQ _ _ _ mm_X12_findBacks 0 [.ref 46, pm_un, pm_un, pm_un, pm_un, pm_un, pm_un, pm_un, pm_un] [] _ _ 0 0 _
          refine q_aload_n rfl rfl rfl ?_
          refine q_getf rfl rfl (by decide) rfl rfl ?_
          refine q_iconst rfl rfl ?_
          refine q_iald rfl rfl (by decide) rfl (by decide) (q_tn (z := 1) rfl ?_)
          refine q_ist1n rfl rfl rfl rfl ?_
          refine q_iconst rfl rfl ?_
          refine q_ist2n rfl rfl rfl rfl ?_
          refine q_iload_n rfl rfl rfl ?_
          refine q_iload_n rfl rfl rfl ?_
          refine q_icge rfl rfl (fun c271 => absurd c271 (by decide)) (fun c271 => ?_)
          refine q_aload_n rfl rfl rfl ?_
          refine q_getf rfl rfl (by decide) rfl rfl ?_
          refine q_iload_n rfl rfl rfl ?_
          refine q_iconst rfl rfl ?_
          refine q_zast rfl rfl (by decide) (FW_65 S hW) (by decide) ?_
          refine q_aload_n rfl rfl rfl ?_
          refine q_getf rfl rfl (by decide) rfl rfl ?_
          refine q_iload_n rfl rfl rfl ?_
          refine q_iconst rfl rfl ?_
          refine q_iast rfl rfl (by decide) (FW_66 S hW) (by decide) ?_
          refine q_aload_n rfl rfl rfl ?_
          refine q_getf rfl rfl (by decide) rfl rfl ?_
          refine q_iload_n rfl rfl rfl ?_
          refine q_iconst rfl rfl ?_
          refine q_zast rfl rfl (by decide) (FW_71 S hW) (by decide) ?_
          refine q_icc2 (z := 1) rfl rfl rfl rfl rfl ?_
          refine q_goto rfl ?_
          refine q_iload_n rfl rfl rfl ?_
          refine q_iload_n rfl rfl rfl ?_
          refine q_icge rfl rfl (fun c272 => ?_) (fun c272 => absurd (by decide) c272)
          refine q_iconst rfl rfl ?_
          refine q_ist2n rfl rfl rfl rfl ?_
          refine q_iconst rfl rfl ?_
          refine q_ist3n rfl rfl rfl rfl ?_
          refine q_iconst rfl rfl ?_
          refine q_ist4 rfl rfl rfl rfl ?_
          refine q_aload_n rfl rfl rfl ?_
          refine q_getf rfl rfl (by decide) rfl rfl ?_
          refine q_iconst rfl rfl ?_
          refine q_iconst rfl rfl ?_
          refine q_iast rfl rfl (by decide) (FW_68 S hW) (by decide) ?_
          refine q_aload_n rfl rfl rfl ?_
          refine q_getf rfl rfl (by decide) rfl rfl ?_
          refine q_iconst rfl rfl ?_
          refine q_iconst rfl rfl ?_
          refine q_iast rfl rfl (by decide) rfl (by decide) ?_
          refine q_aload_n rfl rfl rfl ?_
          refine q_getf rfl rfl (by decide) rfl rfl ?_
          refine q_iconst rfl rfl ?_
          refine q_iconst rfl rfl ?_
          refine q_iast rfl rfl (by decide) (FW_67 S hW) (by decide) ?_
          refine q_aload_n rfl rfl rfl ?_
          refine q_getf rfl rfl (by decide) rfl rfl ?_
          refine q_iconst rfl rfl ?_
          refine q_iconst rfl rfl ?_
          refine q_iast rfl rfl (by decide) (FW_70 S hW) (by decide) ?_
          refine q_aload_n rfl rfl rfl ?_
          refine q_getf rfl rfl (by decide) rfl rfl ?_
          refine q_iconst rfl rfl ?_
          refine q_iconst rfl rfl ?_
          refine q_iast rfl rfl (by decide) (FW_69 S hW) (by decide) ?_
          refine q_iconst rfl rfl ?_
          refine q_ist3n rfl rfl rfl rfl ?_
          refine q_aload_n rfl rfl rfl ?_
          refine q_getf rfl rfl (by decide) rfl rfl ?_
          refine q_iconst rfl rfl ?_
          refine q_iconst rfl rfl ?_
          refine q_zast rfl rfl (by decide) rfl (by decide) ?_
          refine q_iconst rfl rfl ?_
          refine q_ist2n rfl rfl rfl rfl ?_
          refine q_iload rfl rfl rfl ?_
          refine q_ifle rfl rfl (fun c273 => absurd c273 (by decide)) (fun c273 => ?_)
          refine q_aload_n rfl rfl rfl ?_
          refine q_getf rfl rfl (by decide) rfl rfl ?_
          refine q_iload rfl rfl rfl ?_
          refine q_iconst rfl rfl ?_
          refine q_isub rfl rfl (q_tn (z := 0) rfl ?_)
          refine q_iald rfl rfl (by decide) rfl (by decide) (q_tn (z := 0) rfl ?_)
          refine q_ist5 rfl rfl rfl rfl ?_
          refine q_aload_n rfl rfl rfl ?_
          refine q_getf rfl rfl (by decide) rfl rfl ?_
          refine q_iload rfl rfl rfl ?_
          refine q_iald rfl rfl (by decide) rfl (by decide) (q_tn (z := 0) rfl ?_)
          refine q_iconst rfl rfl ?_
          refine q_icge rfl rfl (fun c274 => absurd c274 (by decide)) (fun c274 => ?_)
          refine q_aload_n rfl rfl rfl ?_
          refine q_getf rfl rfl (by decide) rfl rfl ?_
          refine q_iconst rfl rfl ?_
          refine q_iload rfl rfl rfl ?_
          refine q_imul rfl rfl (q_tn (z := 0) rfl ?_)
          refine q_aload_n rfl rfl rfl ?_
          refine q_getf rfl rfl (by decide) rfl rfl ?_
          refine q_iload rfl rfl rfl ?_
          refine q_iald rfl rfl (by decide) rfl (by decide) (q_tn (z := 0) rfl ?_)
          refine q_iadd rfl rfl (q_tn (z := 0) rfl ?_)
          refine q_iald rfl rfl (by decide) rfl (by decide) (q_tn (z := (-1)) rfl ?_)
          refine q_ist6 rfl rfl rfl rfl ?_
          refine q_aload_n rfl rfl rfl ?_
          refine q_getf rfl rfl (by decide) rfl rfl ?_
          refine q_iload rfl rfl rfl ?_
          refine q_dup2 rfl rfl ?_
          refine q_iald rfl rfl (by decide) rfl (by decide) (q_tn (z := 0) rfl ?_)
          refine q_iconst rfl rfl ?_
          refine q_iadd rfl rfl (q_tn (z := 1) rfl ?_)
          refine q_iast rfl rfl (by decide) rfl (by decide) ?_
          refine q_iload rfl rfl rfl ?_
          refine q_ifge rfl rfl (fun c275 => absurd c275 (by decide)) (fun c275 => ?_)
          refine q_goto rfl ?_
          refine q_iload rfl rfl rfl ?_
          refine q_ifle rfl rfl (fun c276 => absurd c276 (by decide)) (fun c276 => ?_)
          refine q_aload_n rfl rfl rfl ?_
          refine q_getf rfl rfl (by decide) rfl rfl ?_
          refine q_iload rfl rfl rfl ?_
          refine q_iconst rfl rfl ?_
          refine q_isub rfl rfl (q_tn (z := 0) rfl ?_)
          refine q_iald rfl rfl (by decide) rfl (by decide) (q_tn (z := 0) rfl ?_)
          refine q_ist5 rfl rfl rfl rfl ?_
          refine q_aload_n rfl rfl rfl ?_
          refine q_getf rfl rfl (by decide) rfl rfl ?_
          refine q_iload rfl rfl rfl ?_
          refine q_iald rfl rfl (by decide) rfl (by decide) (q_tn (z := 1) rfl ?_)
          refine q_iconst rfl rfl ?_
          refine q_icge rfl rfl (fun c277 => absurd c277 (by decide)) (fun c277 => ?_)
          refine q_aload_n rfl rfl rfl ?_
          refine q_getf rfl rfl (by decide) rfl rfl ?_
          refine q_iconst rfl rfl ?_
          refine q_iload rfl rfl rfl ?_
          refine q_imul rfl rfl (q_tn (z := 0) rfl ?_)
          refine q_aload_n rfl rfl rfl ?_
          refine q_getf rfl rfl (by decide) rfl rfl ?_
          refine q_iload rfl rfl rfl ?_
          refine q_iald rfl rfl (by decide) rfl (by decide) (q_tn (z := 1) rfl ?_)
          refine q_iadd rfl rfl (q_tn (z := 1) rfl ?_)
          refine q_iald rfl rfl (by decide) rfl (by decide) (q_tn (z := (-1)) rfl ?_)
          refine q_ist6 rfl rfl rfl rfl ?_
          refine q_aload_n rfl rfl rfl ?_
          refine q_getf rfl rfl (by decide) rfl rfl ?_
          as_aux_lemma =>
            refine q_iload rfl rfl rfl ?_
            refine q_dup2 rfl rfl ?_
            refine q_iald rfl rfl (by decide) rfl (by decide) (q_tn (z := 1) rfl ?_)
            refine q_iconst rfl rfl ?_
            refine q_iadd rfl rfl (q_tn (z := 2) rfl ?_)
            refine q_iast rfl rfl (by decide) rfl (by decide) ?_
            refine q_iload rfl rfl rfl ?_
            refine q_ifge rfl rfl (fun c278 => absurd c278 (by decide)) (fun c278 => ?_)
            refine q_goto rfl ?_
            refine q_iload rfl rfl rfl ?_
            refine q_ifle rfl rfl (fun c279 => absurd c279 (by decide)) (fun c279 => ?_)
            refine q_aload_n rfl rfl rfl ?_
            refine q_getf rfl rfl (by decide) rfl rfl ?_
            refine q_iload rfl rfl rfl ?_
            refine q_iconst rfl rfl ?_
            refine q_isub rfl rfl (q_tn (z := 0) rfl ?_)
            refine q_iald rfl rfl (by decide) rfl (by decide) (q_tn (z := 0) rfl ?_)
            refine q_ist5 rfl rfl rfl rfl ?_
            refine q_aload_n rfl rfl rfl ?_
            refine q_getf rfl rfl (by decide) rfl rfl ?_
            refine q_iload rfl rfl rfl ?_
            refine q_iald rfl rfl (by decide) rfl (by decide) (q_tn (z := 2) rfl ?_)
            refine q_iconst rfl rfl ?_
            refine q_icge rfl rfl (fun c280 => absurd c280 (by decide)) (fun c280 => ?_)
            refine q_aload_n rfl rfl rfl ?_
            refine q_getf rfl rfl (by decide) rfl rfl ?_
            refine q_iconst rfl rfl ?_
            refine q_iload rfl rfl rfl ?_
            refine q_imul rfl rfl (q_tn (z := 0) rfl ?_)
            refine q_aload_n rfl rfl rfl ?_
            refine q_getf rfl rfl (by decide) rfl rfl ?_
            refine q_iload rfl rfl rfl ?_
            refine q_iald rfl rfl (by decide) rfl (by decide) (q_tn (z := 2) rfl ?_)
            refine q_iadd rfl rfl (q_tn (z := 2) rfl ?_)
            refine q_iald rfl rfl (by decide) rfl (by decide) (q_tn (z := (-1)) rfl ?_)
            refine q_ist6 rfl rfl rfl rfl ?_
            refine q_aload_n rfl rfl rfl ?_
            refine q_getf rfl rfl (by decide) rfl rfl ?_
            refine q_iload rfl rfl rfl ?_
            refine q_dup2 rfl rfl ?_
            refine q_iald rfl rfl (by decide) rfl (by decide) (q_tn (z := 2) rfl ?_)
            refine q_iconst rfl rfl ?_
            refine q_iadd rfl rfl (q_tn (z := 3) rfl ?_)
            refine q_iast rfl rfl (by decide) rfl (by decide) ?_
            refine q_iload rfl rfl rfl ?_
            refine q_ifge rfl rfl (fun c281 => absurd c281 (by decide)) (fun c281 => ?_)
            refine q_goto rfl ?_
            refine q_iload rfl rfl rfl ?_
            refine q_ifle rfl rfl (fun c282 => absurd c282 (by decide)) (fun c282 => ?_)
            refine q_aload_n rfl rfl rfl ?_
            refine q_getf rfl rfl (by decide) rfl rfl ?_
            refine q_iload rfl rfl rfl ?_
            refine q_iconst rfl rfl ?_
            refine q_isub rfl rfl (q_tn (z := 0) rfl ?_)
            refine q_iald rfl rfl (by decide) rfl (by decide) (q_tn (z := 0) rfl ?_)
            refine q_ist5 rfl rfl rfl rfl ?_
            refine q_aload_n rfl rfl rfl ?_
            refine q_getf rfl rfl (by decide) rfl rfl ?_
            refine q_iload rfl rfl rfl ?_
            refine q_iald rfl rfl (by decide) rfl (by decide) (q_tn (z := 3) rfl ?_)
            refine q_iconst rfl rfl ?_
            refine q_icge rfl rfl (fun c283 => ?_) (fun c283 => absurd (by decide) c283)
            refine q_icc4 (z := 0) rfl rfl rfl rfl rfl ?_
            refine q_iload rfl rfl rfl ?_
            refine q_ifle rfl rfl (fun c284 => ?_) (fun c284 => absurd (by decide) c284)
            refine q_aload_n rfl rfl rfl ?_
            refine q_getf rfl rfl (by decide) rfl rfl ?_
            refine q_iload rfl rfl rfl ?_
            refine q_iald rfl rfl (by decide) rfl (by decide) (q_tn (z := 0) rfl ?_)
            refine q_aload_n rfl rfl rfl ?_
            refine q_getf rfl rfl (by decide) rfl rfl ?_
            refine q_iload rfl rfl rfl ?_
            refine q_iald rfl rfl (by decide) rfl (by decide) (q_tn (z := 0) rfl ?_)
            refine q_iceq rfl rfl (fun c285 => ?_) (fun c285 => absurd (by decide) c285)
            refine q_aload_n rfl rfl rfl ?_
            refine q_getf rfl rfl (by decide) rfl rfl ?_
            refine q_iload_n rfl rfl rfl ?_
            refine q_iconst rfl rfl ?_
            refine q_isub rfl rfl (q_tn (z := 0) rfl ?_)
            refine q_iald rfl rfl (by decide) rfl (by decide) (q_tn (z := 0) rfl ?_)
            refine q_iload rfl rfl rfl ?_
            refine q_icne rfl rfl (fun c286 => ?_) (fun c286 => absurd (by decide) c286)
            refine q_iconst rfl rfl ?_
            refine q_goto rfl ?_
            refine q_ist6 rfl rfl rfl rfl ?_
            refine q_iconst rfl rfl ?_
            refine q_ist7 rfl rfl rfl rfl ?_
            refine q_iload rfl rfl rfl ?_
            refine q_ifeq rfl rfl (fun c287 => absurd c287 (by decide)) (fun c287 => ?_)
            refine q_icc3 (z := 0) rfl rfl rfl rfl rfl ?_
            refine q_aload_n rfl rfl rfl ?_
            refine q_getf rfl rfl (by decide) rfl rfl ?_
            refine q_iload_n rfl rfl rfl ?_
            refine q_iald rfl rfl (by decide) rfl (by decide) (q_tn (z := 0) rfl ?_)
            refine q_ist8 rfl rfl rfl rfl ?_
            refine q_aload_n rfl rfl rfl ?_
            refine q_getf rfl rfl (by decide) rfl rfl ?_
            refine q_iload rfl rfl rfl ?_
            refine q_iconst rfl rfl ?_
            refine q_zast rfl rfl (by decide) rfl (by decide) ?_
            refine q_aload_n rfl rfl rfl ?_
            refine q_getf rfl rfl (by decide) rfl rfl ?_
            refine q_iload rfl rfl rfl ?_
            refine q_aload_n rfl rfl rfl ?_
            refine q_getf rfl rfl (by decide) rfl rfl ?_
            refine q_iload rfl rfl rfl ?_
            refine q_zald rfl rfl (by decide) rfl (by decide) (q_tn (z := 0) rfl ?_)
            refine q_ifne rfl rfl (fun c288 => ?_) (fun c288 => absurd (by decide) c288)
            refine q_iload rfl rfl rfl ?_
            refine q_ifne rfl rfl (fun c289 => absurd c289 (by decide)) (fun c289 => ?_)
            refine q_iconst rfl rfl ?_
            refine q_zast rfl rfl (by decide) rfl (by decide) ?_
            refine q_iload rfl rfl rfl ?_
            refine q_iload rfl rfl rfl ?_
            refine q_iceq rfl rfl (fun c290 => ?_) (fun c290 => absurd (by decide) c290)
            refine q_iconst rfl rfl ?_
            refine q_ist7 rfl rfl rfl rfl ?_
            refine q_goto rfl ?_
            refine q_iload rfl rfl rfl ?_
            refine q_ifeq rfl rfl (fun c291 => ?_) (fun c291 => absurd (by decide) c291)
            refine q_goto rfl ?_
            refine q_iload rfl rfl rfl ?_
            refine q_ifle rfl rfl (fun c292 => ?_) (fun c292 => absurd (by decide) c292)
            refine q_ret rfl rfl ?_
            refine ⟨rfl, ?_⟩
            refine q_iconst rfl rfl ?_
            refine q_ist2n rfl rfl rfl rfl ?_
            refine q_iconst rfl rfl ?_
            refine q_ist3n rfl rfl rfl rfl ?_
            refine q_iload_n rfl rfl rfl ?_
            refine q_aload_n rfl rfl rfl ?_
            refine q_getf rfl rfl (by decide) rfl rfl ?_
            refine q_iconst rfl rfl ?_
            refine q_iald rfl rfl (by decide) rfl (by decide) (q_tn (z := 1) rfl ?_)
            refine q_icge rfl rfl (fun c293 => absurd c293 (by decide)) (fun c293 => ?_)
            refine q_iload_n rfl rfl rfl ?_
            refine q_aload_n rfl rfl rfl ?_
            refine q_iload_n rfl rfl rfl ?_
            refine q_iload_n rfl rfl rfl ?_
            refine q_nV2 rfl rfl (Or.inl rfl) rfl rfl rfl (by decide) rfl ⟨rfl, rfl⟩ rfl ?_
            change PQ _ _ _ mm_X12_isSuch 0 [.ref 46, .int 2, .int 0] [] _ _ 0 0 _
            refine q_iload_n rfl rfl rfl ?_
            refine q_iconst rfl rfl ?_
            refine q_icne rfl rfl (fun c294 => ?_) (fun c294 => absurd (by decide) c294)
            refine q_aload_n rfl rfl rfl ?_
            refine q_getf rfl rfl (by decide) rfl rfl ?_
            refine q_iload_n rfl rfl rfl ?_
            refine q_zald rfl rfl (by decide) rfl (by decide) (q_tn (z := 0) rfl ?_)
            refine q_iret rfl rfl rfl ?_
            refine ⟨_, rfl, ?_⟩
            refine q_ifeq rfl rfl (fun c295 => ?_) (fun c295 => absurd (by decide) c295)
            refine q_iconst rfl rfl ?_
            refine q_iadd rfl rfl (q_tn (z := 0) rfl ?_)
            refine q_ist2n rfl rfl rfl rfl ?_
            refine q_icc3 (z := 1) rfl rfl rfl rfl rfl ?_
            refine q_goto rfl ?_
            refine q_iload_n rfl rfl rfl ?_
            refine q_aload_n rfl rfl rfl ?_
            refine q_getf rfl rfl (by decide) rfl rfl ?_
            refine q_iconst rfl rfl ?_
            refine q_iald rfl rfl (by decide) rfl (by decide) (q_tn (z := 1) rfl ?_)
            refine q_icge rfl rfl (fun c296 => ?_) (fun c296 => absurd (by decide) c296)
            refine q_iload_n rfl rfl rfl ?_
            refine q_iret rfl rfl trivial ?_
            refine ⟨_, rfl, ?_⟩
            refine q_iceq rfl rfl (fun c297 => ?_) (fun c297 => absurd (by decide) c297)
            refine q_icc4 (z := 6) rfl rfl rfl rfl rfl ?_
            refine q_goto rfl ?_
            refine q_iload rfl rfl rfl ?_
            refine q_aload_nF rfl rfl rfl ?_
            refine q_alenX (x := 6) rfl rfl rfl ?_
            refine q_bipush rfl rfl ?_
            refine q_isub rfl rfl (q_tn (z := 0) rfl ?_)
            refine q_icgt rfl rfl (fun c298 => ?_) (fun c298 => absurd (by decide) c298)
            refine q_iconst rfl rfl ?_
            refine q_iret rfl rfl rfl ?_
            exact hK _ _
      · refine q_aload_n rfl rfl rfl ?_
        refine q_getf rfl rfl (by decide) (FW_0 S hW) rfl ?_
        refine q_iload_n rfl rfl rfl ?_
        refine q_nV1 rfl rfl (Or.inl rfl) rfl rfl rfl (by decide) rfl ⟨rfl, rfl⟩ rfl ?_
        change PQ _ _ _ mm_X7_sortOf 0 [.ref 8, .int 0] [] _ _ 0 0 _
        refine q_iload_n rfl rfl rfl ?_
        refine q_aload_n rfl rfl rfl ?_
        refine q_getf rfl rfl (by decide) rfl rfl ?_
        refine q_nS2 rfl rfl (Or.inr rfl) rfl rfl ⟨rfl, rfl⟩ rfl ?_
        change PQ _ _ _ mm_X11_within 0 [.int 0, .int 1] [] _ _ 0 0 _
        refine q_iload_n rfl rfl rfl ?_
        refine q_iflt rfl rfl (fun c299 => absurd c299 (by decide)) (fun c299 => ?_)
        refine q_iload_n rfl rfl rfl ?_
        refine q_iload_n rfl rfl rfl ?_
        refine q_icge rfl rfl (fun c300 => absurd c300 (by decide)) (fun c300 => ?_)
        refine q_iconst rfl rfl ?_
        refine q_goto rfl ?_
        refine q_iret rfl rfl rfl ?_
        refine ⟨_, rfl, ?_⟩
        refine q_ifeq rfl rfl (fun c301 => absurd c301 (by decide)) (fun c301 => ?_)
        refine q_aload_n rfl rfl rfl ?_
        refine q_getf rfl rfl (by decide) rfl rfl ?_
        refine q_iload_n rfl rfl rfl ?_
        refine q_iald rfl rfl (by decide) rfl (by decide) (q_tn (z := 1) rfl ?_)
        refine q_goto rfl ?_
        refine q_iret rfl rfl trivial ?_
        refine ⟨_, rfl, ?_⟩
        refine q_iload_n rfl rfl rfl ?_
        refine q_ifne rfl rfl (fun c302 => ?_) (fun c302 => ?_)
        · subst c302
          refine q_iconst rfl rfl ?_
          refine q_goto rfl ?_
          refine q_icne rfl rfl (fun c303 => ?_) (fun c303 => absurd (by decide) c303)
          refine q_iconst rfl rfl ?_
          refine q_goto rfl ?_
          refine q_iret rfl rfl rfl ?_
          refine ⟨_, rfl, ?_⟩
          refine q_ifeq rfl rfl (fun c304 => absurd c304 (by decide)) (fun c304 => ?_)
          refine q_icc2 (z := 1) rfl rfl rfl rfl rfl ?_
          refine q_icc3 (z := 1) rfl rfl rfl rfl rfl ?_
          refine q_goto rfl ?_
          refine q_iload_n rfl rfl rfl ?_
          refine q_aload_n rfl rfl rfl ?_
          refine q_getf rfl rfl (by decide) (FW_0 S hW) rfl ?_
          refine q_getf rfl rfl (by decide) rfl rfl ?_
          refine q_icge rfl rfl (fun c305 => ?_) (fun c305 => absurd (by decide) c305)
          refine q_iload_n rfl rfl rfl ?_
          refine q_iret rfl rfl trivial ?_
          refine ⟨_, rfl, ?_⟩
          refine q_aload_n rfl rfl rfl ?_
          refine q_aload_nF rfl rfl rfl ?_
          refine q_iload rfl rfl rfl ?_
          refine q_iconst rfl rfl ?_
          refine q_iadd rfl rfl (q_tn (z := 1) rfl ?_)
          refine q_ialdX (x := 0) rfl rfl rfl hx1 ?_
          refine q_nV1 rfl rfl (Or.inl rfl) rfl rfl rfl (by decide) (FW_46 S hW) ⟨rfl, rfl⟩ rfl ?_
          change PQ _ _ _ mm_X12_count 0 [.ref 46, .int 0, pm_un, pm_un] [] _ _ 0 0 _
          refine q_aload_n rfl rfl rfl ?_
          refine q_iload_n rfl rfl rfl ?_
          refine q_iconst rfl rfl ?_
          refine q_iconst rfl rfl ?_
          refine q_nV3 rfl rfl (Or.inl rfl) rfl rfl rfl (by decide) (FW_46 S hW) ⟨rfl, rfl⟩ rfl ?_
          change PQ _ _ _ mm_X12_in 0 [.ref 46, .int 0, .int 0, .int 2] [] _ _ 0 0 _
          refine q_iload_n rfl rfl rfl ?_
          refine q_iload_n rfl rfl rfl ?_
          refine q_iclt rfl rfl (fun c306 => absurd c306 (by decide)) (fun c306 => ?_)
          refine q_iload_n rfl rfl rfl ?_
          refine q_iload_n rfl rfl rfl ?_
          refine q_icgt rfl rfl (fun c307 => absurd c307 (by decide)) (fun c307 => ?_)
          refine q_iconst rfl rfl ?_
          refine q_goto rfl ?_
          refine q_iret rfl rfl rfl ?_
          refine ⟨_, rfl, ?_⟩
          refine q_ifne rfl rfl (fun c308 => absurd c308 (by decide)) (fun c308 => ?_)
          refine q_aload_n rfl rfl rfl ?_
          refine q_iconst rfl rfl ?_
          refine q_nV1 rfl rfl (Or.inl rfl) rfl rfl rfl (by decide) (FW_46 S hW) ⟨rfl, rfl⟩ rfl ?_
          change PQ _ _ _ mm_X12_isSpent 0 [.ref 46, .int 0, pm_un, pm_un, pm_un] [] _ _ 0 0 _
          refine q_iload_n rfl rfl rfl ?_
          refine q_ifne rfl rfl (fun c309 => ?_) (fun c309 => absurd (by decide) c309)
          refine q_iconst rfl rfl ?_
          refine q_goto rfl ?_
          refine q_ist2n rfl rfl rfl rfl ?_
          refine q_aload_n rfl rfl rfl ?_
          refine q_iconst rfl rfl ?_
          refine q_putf rfl rfl (by decide) (FW_46 S hW) (by decide) rfl trivial ?_
          refine q_aload_n rfl rfl rfl ?_
          refine q_getf rfl rfl (by decide) rfl rfl ?_
          refine q_iload_n rfl rfl rfl ?_
          refine q_iald rfl rfl (by decide) (FW_62 S hW) (by decide) (q_tn (z := 0) rfl ?_)
          refine q_ifeq rfl rfl (fun c310 => ?_) (fun c310 => absurd (by decide) c310)
          refine q_aload_n rfl rfl rfl ?_
          refine q_getf rfl rfl (by decide) rfl rfl ?_
          refine q_iload_n rfl rfl rfl ?_
          refine q_aload_n rfl rfl rfl ?_
          refine q_iload_n rfl rfl rfl ?_
          refine q_iload_n rfl rfl rfl ?_
          refine q_nV2 rfl rfl (Or.inl rfl) rfl rfl rfl (by decide) rfl ⟨rfl, rfl⟩ rfl ?_
          change PQ _ _ _ mm_X12_explore 0 [.ref 46, .int 0, .int 0, pm_un, pm_un, pm_un, pm_un, pm_un] [] _ _ 0 0 _
          refine q_iconst rfl rfl ?_
          refine q_ist3n rfl rfl rfl rfl ?_
          refine l_net (R := 0) (by decide) rfl (by decide) rfl rfl (FW_61 S hW) ?_
          refine q_aload_n rfl rfl rfl ?_
          refine q_getf rfl rfl (by decide) rfl rfl ?_
          refine q_iload_n rfl rfl rfl ?_
          refine q_iconst rfl rfl ?_
          refine q_iast rfl rfl (by decide) (FW_60 S hW) (by decide) ?_
          refine q_aload_n rfl rfl rfl ?_
          refine q_nV0v rfl rfl (Or.inl rfl) rfl rfl rfl (by decide) rfl ⟨rfl, rfl⟩ rfl ?_
          change PQ _ _ _ mm_X12_firstState 0 [.ref 46, pm_un] [] _ _ 0 0 _
          refine q_iconst rfl rfl ?_
          refine q_ist1n rfl rfl rfl rfl ?_
          refine q_iload_n rfl rfl rfl ?_
          refine q_bipush rfl rfl ?_
          refine q_icge rfl rfl (fun c311 => absurd c311 (by decide)) (fun c311 => ?_)
          refine q_aload_n rfl rfl rfl ?_
          refine q_getf rfl rfl (by decide) rfl rfl ?_
          refine q_iload_n rfl rfl rfl ?_
          refine q_iconst rfl rfl ?_
          refine q_iast rfl rfl (by decide) (FW_52 S hW) (by decide) ?_
          refine q_icc1 (z := 1) rfl rfl rfl rfl rfl ?_
          refine q_goto rfl ?_
          refine q_iload_n rfl rfl rfl ?_
          refine q_bipush rfl rfl ?_
          refine q_icge rfl rfl (fun c312 => absurd c312 (by decide)) (fun c312 => ?_)
          refine q_aload_n rfl rfl rfl ?_
          refine q_getf rfl rfl (by decide) rfl rfl ?_
          refine q_iload_n rfl rfl rfl ?_
          refine q_iconst rfl rfl ?_
          refine q_iast rfl rfl (by decide) rfl (by decide) ?_
          refine q_icc1 (z := 2) rfl rfl rfl rfl rfl ?_
          refine q_goto rfl ?_
          refine q_iload_n rfl rfl rfl ?_
          refine q_bipush rfl rfl ?_
          refine q_icge rfl rfl (fun c313 => absurd c313 (by decide)) (fun c313 => ?_)
          refine q_aload_n rfl rfl rfl ?_
          refine q_getf rfl rfl (by decide) rfl rfl ?_
          refine q_iload_n rfl rfl rfl ?_
          refine q_iconst rfl rfl ?_
          refine q_iast rfl rfl (by decide) rfl (by decide) ?_
          refine q_icc1 (z := 3) rfl rfl rfl rfl rfl ?_
          refine q_goto rfl ?_
          refine q_iload_n rfl rfl rfl ?_
          refine q_bipush rfl rfl ?_
          refine q_icge rfl rfl (fun c314 => absurd c314 (by decide)) (fun c314 => ?_)
          refine q_aload_n rfl rfl rfl ?_
          refine q_getf rfl rfl (by decide) rfl rfl ?_
          refine q_iload_n rfl rfl rfl ?_
          refine q_iconst rfl rfl ?_
          refine q_iast rfl rfl (by decide) rfl (by decide) ?_
          refine q_icc1 (z := 4) rfl rfl rfl rfl rfl ?_
          refine q_goto rfl ?_
          refine q_iload_n rfl rfl rfl ?_
          refine q_bipush rfl rfl ?_
          refine q_icge rfl rfl (fun c315 => absurd c315 (by decide)) (fun c315 => ?_)
          refine q_aload_n rfl rfl rfl ?_
          refine q_getf rfl rfl (by decide) rfl rfl ?_
          refine q_iload_n rfl rfl rfl ?_
          refine q_iconst rfl rfl ?_
          refine q_iast rfl rfl (by decide) rfl (by decide) ?_
          refine q_icc1 (z := 5) rfl rfl rfl rfl rfl ?_
          refine q_goto rfl ?_
          refine q_iload_n rfl rfl rfl ?_
          refine q_bipush rfl rfl ?_
          refine q_icge rfl rfl (fun c316 => absurd c316 (by decide)) (fun c316 => ?_)
          refine q_aload_n rfl rfl rfl ?_
          refine q_getf rfl rfl (by decide) rfl rfl ?_
          refine q_iload_n rfl rfl rfl ?_
          refine q_iconst rfl rfl ?_
          refine q_iast rfl rfl (by decide) rfl (by decide) ?_
          refine q_icc1 (z := 6) rfl rfl rfl rfl rfl ?_
          refine q_goto rfl ?_
          refine q_iload_n rfl rfl rfl ?_
          refine q_bipush rfl rfl ?_
          refine q_icge rfl rfl (fun c317 => absurd c317 (by decide)) (fun c317 => ?_)
          refine q_aload_n rfl rfl rfl ?_
          refine q_getf rfl rfl (by decide) rfl rfl ?_
          refine q_iload_n rfl rfl rfl ?_
          refine q_iconst rfl rfl ?_
          refine q_iast rfl rfl (by decide) rfl (by decide) ?_
          refine q_icc1 (z := 7) rfl rfl rfl rfl rfl ?_
          refine q_goto rfl ?_
          refine q_iload_n rfl rfl rfl ?_
          refine q_bipush rfl rfl ?_
          refine q_icge rfl rfl (fun c318 => absurd c318 (by decide)) (fun c318 => ?_)
          refine q_aload_n rfl rfl rfl ?_
          refine q_getf rfl rfl (by decide) rfl rfl ?_
          refine q_iload_n rfl rfl rfl ?_
          refine q_iconst rfl rfl ?_
          refine q_iast rfl rfl (by decide) rfl (by decide) ?_
          refine q_icc1 (z := 8) rfl rfl rfl rfl rfl ?_
          refine q_goto rfl ?_
          refine q_iload_n rfl rfl rfl ?_
          refine q_bipush rfl rfl ?_
          refine q_icge rfl rfl (fun c319 => absurd c319 (by decide)) (fun c319 => ?_)
          refine q_aload_n rfl rfl rfl ?_
          refine q_getf rfl rfl (by decide) rfl rfl ?_
          refine q_iload_n rfl rfl rfl ?_
          refine q_iconst rfl rfl ?_
          refine q_iast rfl rfl (by decide) rfl (by decide) ?_
          refine q_icc1 (z := 9) rfl rfl rfl rfl rfl ?_
          refine q_goto rfl ?_
          refine q_iload_n rfl rfl rfl ?_
          refine q_bipush rfl rfl ?_
          refine q_icge rfl rfl (fun c320 => absurd c320 (by decide)) (fun c320 => ?_)
          refine q_aload_n rfl rfl rfl ?_
          refine q_getf rfl rfl (by decide) rfl rfl ?_
          refine q_iload_n rfl rfl rfl ?_
          refine q_iconst rfl rfl ?_
          refine q_iast rfl rfl (by decide) rfl (by decide) ?_
          refine q_icc1 (z := 10) rfl rfl rfl rfl rfl ?_
          refine q_goto rfl ?_
          refine q_iload_n rfl rfl rfl ?_
          refine q_bipush rfl rfl ?_
          refine q_icge rfl rfl (fun c321 => absurd c321 (by decide)) (fun c321 => ?_)
          refine q_aload_n rfl rfl rfl ?_
          refine q_getf rfl rfl (by decide) rfl rfl ?_
          refine q_iload_n rfl rfl rfl ?_
          refine q_iconst rfl rfl ?_
          refine q_iast rfl rfl (by decide) rfl (by decide) ?_
          refine q_icc1 (z := 11) rfl rfl rfl rfl rfl ?_
          refine q_goto rfl ?_
          refine q_iload_n rfl rfl rfl ?_
          refine q_bipush rfl rfl ?_
          refine q_icge rfl rfl (fun c322 => absurd c322 (by decide)) (fun c322 => ?_)
          refine q_aload_n rfl rfl rfl ?_
          refine q_getf rfl rfl (by decide) rfl rfl ?_
          refine q_iload_n rfl rfl rfl ?_
          refine q_iconst rfl rfl ?_
          refine q_iast rfl rfl (by decide) rfl (by decide) ?_
          refine q_icc1 (z := 12) rfl rfl rfl rfl rfl ?_
          refine q_goto rfl ?_
          refine q_iload_n rfl rfl rfl ?_
          refine q_bipush rfl rfl ?_
          refine q_icge rfl rfl (fun c323 => absurd c323 (by decide)) (fun c323 => ?_)
          refine q_aload_n rfl rfl rfl ?_
          refine q_getf rfl rfl (by decide) rfl rfl ?_
          refine q_iload_n rfl rfl rfl ?_
          refine q_iconst rfl rfl ?_
          refine q_iast rfl rfl (by decide) rfl (by decide) ?_
          refine q_icc1 (z := 13) rfl rfl rfl rfl rfl ?_
          refine q_goto rfl ?_
          refine q_iload_n rfl rfl rfl ?_
          refine q_bipush rfl rfl ?_
          refine q_icge rfl rfl (fun c324 => absurd c324 (by decide)) (fun c324 => ?_)
          refine q_aload_n rfl rfl rfl ?_
          refine q_getf rfl rfl (by decide) rfl rfl ?_
          refine q_iload_n rfl rfl rfl ?_
          refine q_iconst rfl rfl ?_
          refine q_iast rfl rfl (by decide) rfl (by decide) ?_
          refine q_icc1 (z := 14) rfl rfl rfl rfl rfl ?_
          refine q_goto rfl ?_
          refine q_iload_n rfl rfl rfl ?_
          refine q_bipush rfl rfl ?_
          refine q_icge rfl rfl (fun c325 => absurd c325 (by decide)) (fun c325 => ?_)
          refine q_aload_n rfl rfl rfl ?_
          refine q_getf rfl rfl (by decide) rfl rfl ?_
          refine q_iload_n rfl rfl rfl ?_
          refine q_iconst rfl rfl ?_
          refine q_iast rfl rfl (by decide) rfl (by decide) ?_
          refine q_icc1 (z := 15) rfl rfl rfl rfl rfl ?_
          refine q_goto rfl ?_
          refine q_iload_n rfl rfl rfl ?_
          refine q_bipush rfl rfl ?_
          refine q_icge rfl rfl (fun c326 => absurd c326 (by decide)) (fun c326 => ?_)
          refine q_aload_n rfl rfl rfl ?_
          refine q_getf rfl rfl (by decide) rfl rfl ?_
          refine q_iload_n rfl rfl rfl ?_
          refine q_iconst rfl rfl ?_
          refine q_iast rfl rfl (by decide) rfl (by decide) ?_
          refine q_icc1 (z := 16) rfl rfl rfl rfl rfl ?_
          refine q_goto rfl ?_
          refine q_iload_n rfl rfl rfl ?_
          refine q_bipush rfl rfl ?_
          refine q_icge rfl rfl (fun c327 => absurd c327 (by decide)) (fun c327 => ?_)
          refine q_aload_n rfl rfl rfl ?_
          refine q_getf rfl rfl (by decide) rfl rfl ?_
          refine q_iload_n rfl rfl rfl ?_
          refine q_iconst rfl rfl ?_
          refine q_iast rfl rfl (by decide) rfl (by decide) ?_
          refine q_icc1 (z := 17) rfl rfl rfl rfl rfl ?_
          refine q_goto rfl ?_
          refine q_iload_n rfl rfl rfl ?_
          refine q_bipush rfl rfl ?_
          refine q_icge rfl rfl (fun c328 => absurd c328 (by decide)) (fun c328 => ?_)
          refine q_aload_n rfl rfl rfl ?_
          refine q_getf rfl rfl (by decide) rfl rfl ?_
          refine q_iload_n rfl rfl rfl ?_
          refine q_iconst rfl rfl ?_
          refine q_iast rfl rfl (by decide) rfl (by decide) ?_
          refine q_icc1 (z := 18) rfl rfl rfl rfl rfl ?_
          refine q_goto rfl ?_
          refine q_iload_n rfl rfl rfl ?_
          refine q_bipush rfl rfl ?_
          refine q_icge rfl rfl (fun c329 => absurd c329 (by decide)) (fun c329 => ?_)
          refine q_aload_n rfl rfl rfl ?_
          refine q_getf rfl rfl (by decide) rfl rfl ?_
          refine q_iload_n rfl rfl rfl ?_
          refine q_iconst rfl rfl ?_
          refine q_iast rfl rfl (by decide) rfl (by decide) ?_
          refine q_icc1 (z := 19) rfl rfl rfl rfl rfl ?_
          refine q_goto rfl ?_
          refine q_iload_n rfl rfl rfl ?_
          refine q_bipush rfl rfl ?_
          refine q_icge rfl rfl (fun c330 => absurd c330 (by decide)) (fun c330 => ?_)
          refine q_aload_n rfl rfl rfl ?_
          refine q_getf rfl rfl (by decide) rfl rfl ?_
          refine q_iload_n rfl rfl rfl ?_
          refine q_iconst rfl rfl ?_
          refine q_iast rfl rfl (by decide) rfl (by decide) ?_
          refine q_icc1 (z := 20) rfl rfl rfl rfl rfl ?_
          refine q_goto rfl ?_
          refine q_iload_n rfl rfl rfl ?_
          refine q_bipush rfl rfl ?_
          refine q_icge rfl rfl (fun c331 => ?_) (fun c331 => absurd (by decide) c331)
          refine q_iconst rfl rfl ?_
          refine q_ist1n rfl rfl rfl rfl ?_
          refine q_iload_n rfl rfl rfl ?_
          refine q_aload_n rfl rfl rfl ?_
          refine q_getf rfl rfl (by decide) rfl rfl ?_
          refine q_icge rfl rfl (fun c332 => absurd c332 (by decide)) (fun c332 => ?_)
          refine q_aload_n rfl rfl rfl ?_
          refine q_getf rfl rfl (by decide) rfl rfl ?_
          refine q_iconst rfl rfl ?_
          refine q_iload_n rfl rfl rfl ?_
          refine q_imul rfl rfl (q_tn (z := 0) rfl ?_)
          refine q_aload_n rfl rfl rfl ?_
          refine q_getf rfl rfl (by decide) rfl rfl ?_
          refine q_aload_n rfl rfl rfl ?_
          refine q_getf rfl rfl (by decide) rfl rfl ?_
          refine q_iload_n rfl rfl rfl ?_
          refine q_iadd rfl rfl (q_tn (z := 0) rfl ?_)
          refine q_iald rfl rfl (by decide) (FW_47 S hW) (by decide) (q_tn (z := 0) rfl ?_)
          refine q_ifne rfl rfl (fun c333 => ?_) (fun c333 => absurd (by decide) c333)
          refine q_bipush rfl rfl ?_
          refine q_goto rfl ?_
          refine q_iast rfl rfl (by decide) rfl (by decide) ?_
          refine q_icc1 (z := 1) rfl rfl rfl rfl rfl ?_
          refine q_goto rfl ?_
          refine q_iload_n rfl rfl rfl ?_
          refine q_aload_n rfl rfl rfl ?_
          refine q_getf rfl rfl (by decide) rfl rfl ?_
          refine q_icge rfl rfl (fun c334 => ?_) (fun c334 => absurd (by decide) c334)
          refine q_iconst rfl rfl ?_
          refine q_ist1n rfl rfl rfl rfl ?_
          refine q_iload_n rfl rfl rfl ?_
          refine q_iconst rfl rfl ?_
          refine q_icge rfl rfl (fun c335 => absurd c335 (by decide)) (fun c335 => ?_)
          refine q_aload_n rfl rfl rfl ?_
          refine q_getf rfl rfl (by decide) rfl rfl ?_
          refine q_bipush rfl rfl ?_
          refine q_iload_n rfl rfl rfl ?_
          refine q_iadd rfl rfl (q_tn (z := 12) rfl ?_)
          refine q_aload_n rfl rfl rfl ?_
          refine q_getf rfl rfl (by decide) rfl rfl ?_
          refine q_iload_n rfl rfl rfl ?_
          refine q_iald rfl rfl (by decide) (FW_51 S hW) (by decide) (q_tn (z := 0) rfl ?_)
          refine q_iast rfl rfl (by decide) rfl (by decide) ?_
          refine q_icc1 (z := 1) rfl rfl rfl rfl rfl ?_
          refine q_goto rfl ?_
          refine q_iload_n rfl rfl rfl ?_
          refine q_iconst rfl rfl ?_
          refine q_icge rfl rfl (fun c336 => absurd c336 (by decide)) (fun c336 => ?_)
          refine q_aload_n rfl rfl rfl ?_
          refine q_getf rfl rfl (by decide) rfl rfl ?_
          refine q_bipush rfl rfl ?_
          refine q_iload_n rfl rfl rfl ?_
          refine q_iadd rfl rfl (q_tn (z := 13) rfl ?_)
          refine q_aload_n rfl rfl rfl ?_
          refine q_getf rfl rfl (by decide) rfl rfl ?_
          refine q_iload_n rfl rfl rfl ?_
          refine q_iald rfl rfl (by decide) (FW_51 S hW) (by decide) (q_tn (z := 0) rfl ?_)
          refine q_iast rfl rfl (by decide) rfl (by decide) ?_
          refine q_icc1 (z := 2) rfl rfl rfl rfl rfl ?_
          refine q_goto rfl ?_
          refine q_iload_n rfl rfl rfl ?_
          refine q_iconst rfl rfl ?_
          refine q_icge rfl rfl (fun c337 => absurd c337 (by decide)) (fun c337 => ?_)
          refine q_aload_n rfl rfl rfl ?_
          refine q_getf rfl rfl (by decide) rfl rfl ?_
          refine q_bipush rfl rfl ?_
          refine q_iload_n rfl rfl rfl ?_
          refine q_iadd rfl rfl (q_tn (z := 14) rfl ?_)
          refine q_aload_n rfl rfl rfl ?_
          refine q_getf rfl rfl (by decide) rfl rfl ?_
          refine q_iload_n rfl rfl rfl ?_
          refine q_iald rfl rfl (by decide) (FW_51 S hW) (by decide) (q_tn (z := 0) rfl ?_)
          refine q_iast rfl rfl (by decide) rfl (by decide) ?_
          refine q_icc1 (z := 3) rfl rfl rfl rfl rfl ?_
          refine q_goto rfl ?_
          refine q_iload_n rfl rfl rfl ?_
          refine q_iconst rfl rfl ?_
          refine q_icge rfl rfl (fun c338 => absurd c338 (by decide)) (fun c338 => ?_)
          refine q_aload_n rfl rfl rfl ?_
          refine q_getf rfl rfl (by decide) rfl rfl ?_
          refine q_bipush rfl rfl ?_
          refine q_iload_n rfl rfl rfl ?_
          refine q_iadd rfl rfl (q_tn (z := 15) rfl ?_)
          refine q_aload_n rfl rfl rfl ?_
          refine q_getf rfl rfl (by decide) rfl rfl ?_
          refine q_iload_n rfl rfl rfl ?_
          refine q_iald rfl rfl (by decide) (FW_51 S hW) (by decide) (q_tn (z := 0) rfl ?_)
          refine q_iast rfl rfl (by decide) rfl (by decide) ?_
          refine q_icc1 (z := 4) rfl rfl rfl rfl rfl ?_
          refine q_goto rfl ?_
          refine q_iload_n rfl rfl rfl ?_
          refine q_iconst rfl rfl ?_
          refine q_icge rfl rfl (fun c339 => ?_) (fun c339 => absurd (by decide) c339)
          refine q_ret rfl rfl ?_
          refine ⟨rfl, ?_⟩
          refine q_iconst rfl rfl ?_
          refine q_ist3n rfl rfl rfl rfl ?_
          refine q_iload_n rfl rfl rfl ?_
          refine q_bipush rfl rfl ?_
          refine q_icge rfl rfl (fun c340 => absurd c340 (by decide)) (fun c340 => ?_)
          refine q_aload_n rfl rfl rfl ?_
          refine q_getf rfl rfl (by decide) rfl rfl ?_
          refine q_iload_n rfl rfl rfl ?_
          refine q_aload_n rfl rfl rfl ?_
          refine q_getf rfl rfl (by decide) rfl rfl ?_
          refine q_iload_n rfl rfl rfl ?_
          refine q_iald rfl rfl (by decide) rfl (by decide) (q_tn (z := 10) rfl ?_)
          refine q_iast rfl rfl (by decide) (FW_53 S hW) (by decide) ?_
          refine q_icc3 (z := 1) rfl rfl rfl rfl rfl ?_
          refine q_goto rfl ?_
          refine q_iload_n rfl rfl rfl ?_
          refine q_bipush rfl rfl ?_
          refine q_icge rfl rfl (fun c341 => absurd c341 (by decide)) (fun c341 => ?_)
          refine q_aload_n rfl rfl rfl ?_
          refine q_getf rfl rfl (by decide) rfl rfl ?_
          refine q_iload_n rfl rfl rfl ?_
          refine q_aload_n rfl rfl rfl ?_
          refine q_getf rfl rfl (by decide) rfl rfl ?_
          refine q_iload_n rfl rfl rfl ?_
          refine q_iald rfl rfl (by decide) rfl (by decide) (q_tn (z := 0) rfl ?_)
          refine q_iast rfl rfl (by decide) rfl (by decide) ?_
          refine q_icc3 (z := 2) rfl rfl rfl rfl rfl ?_
          refine q_goto rfl ?_
          refine q_iload_n rfl rfl rfl ?_
          refine q_bipush rfl rfl ?_
          refine q_icge rfl rfl (fun c342 => absurd c342 (by decide)) (fun c342 => ?_)
          refine q_aload_n rfl rfl rfl ?_
          refine q_getf rfl rfl (by decide) rfl rfl ?_
          refine q_iload_n rfl rfl rfl ?_
          refine q_aload_n rfl rfl rfl ?_
          refine q_getf rfl rfl (by decide) rfl rfl ?_
          refine q_iload_n rfl rfl rfl ?_
          refine q_iald rfl rfl (by decide) rfl (by decide) (q_tn (z := 0) rfl ?_)
          refine q_iast rfl rfl (by decide) rfl (by decide) ?_
          refine q_icc3 (z := 3) rfl rfl rfl rfl rfl ?_
          refine q_goto rfl ?_
          refine q_iload_n rfl rfl rfl ?_
          refine q_bipush rfl rfl ?_
          refine q_icge rfl rfl (fun c343 => absurd c343 (by decide)) (fun c343 => ?_)
          refine q_aload_n rfl rfl rfl ?_
          refine q_getf rfl rfl (by decide) rfl rfl ?_
          refine q_iload_n rfl rfl rfl ?_
          refine q_aload_n rfl rfl rfl ?_
          refine q_getf rfl rfl (by decide) rfl rfl ?_
          refine q_iload_n rfl rfl rfl ?_
          refine q_iald rfl rfl (by decide) rfl (by decide) (q_tn (z := 0) rfl ?_)
          refine q_iast rfl rfl (by decide) rfl (by decide) ?_
          refine q_icc3 (z := 4) rfl rfl rfl rfl rfl ?_
          refine q_goto rfl ?_
          refine q_iload_n rfl rfl rfl ?_
          refine q_bipush rfl rfl ?_
          refine q_icge rfl rfl (fun c344 => absurd c344 (by decide)) (fun c344 => ?_)
          refine q_aload_n rfl rfl rfl ?_
          refine q_getf rfl rfl (by decide) rfl rfl ?_
          refine q_iload_n rfl rfl rfl ?_
          refine q_aload_n rfl rfl rfl ?_
          refine q_getf rfl rfl (by decide) rfl rfl ?_
          refine q_iload_n rfl rfl rfl ?_
          refine q_iald rfl rfl (by decide) rfl (by decide) (q_tn (z := 0) rfl ?_)
          refine q_iast rfl rfl (by decide) rfl (by decide) ?_
          refine q_icc3 (z := 5) rfl rfl rfl rfl rfl ?_
          refine q_goto rfl ?_
          refine q_iload_n rfl rfl rfl ?_
          refine q_bipush rfl rfl ?_
          refine q_icge rfl rfl (fun c345 => absurd c345 (by decide)) (fun c345 => ?_)
          refine q_aload_n rfl rfl rfl ?_
          refine q_getf rfl rfl (by decide) rfl rfl ?_
          refine q_iload_n rfl rfl rfl ?_
          refine q_aload_n rfl rfl rfl ?_
          refine q_getf rfl rfl (by decide) rfl rfl ?_
          refine q_iload_n rfl rfl rfl ?_
          refine q_iald rfl rfl (by decide) rfl (by decide) (q_tn (z := 0) rfl ?_)
          refine q_iast rfl rfl (by decide) rfl (by decide) ?_
          refine q_icc3 (z := 6) rfl rfl rfl rfl rfl ?_
          refine q_goto rfl ?_
          refine q_iload_n rfl rfl rfl ?_
          refine q_bipush rfl rfl ?_
          refine q_icge rfl rfl (fun c346 => absurd c346 (by decide)) (fun c346 => ?_)
          refine q_aload_n rfl rfl rfl ?_
          refine q_getf rfl rfl (by decide) rfl rfl ?_
          refine q_iload_n rfl rfl rfl ?_
          refine q_aload_n rfl rfl rfl ?_
          refine q_getf rfl rfl (by decide) rfl rfl ?_
          refine q_iload_n rfl rfl rfl ?_
          refine q_iald rfl rfl (by decide) rfl (by decide) (q_tn (z := 0) rfl ?_)
          refine q_iast rfl rfl (by decide) rfl (by decide) ?_
          refine q_icc3 (z := 7) rfl rfl rfl rfl rfl ?_
          refine q_goto rfl ?_
          refine q_iload_n rfl rfl rfl ?_
          refine q_bipush rfl rfl ?_
          refine q_icge rfl rfl (fun c347 => absurd c347 (by decide)) (fun c347 => ?_)
          refine q_aload_n rfl rfl rfl ?_
          refine q_getf rfl rfl (by decide) rfl rfl ?_
          refine q_iload_n rfl rfl rfl ?_
          refine q_aload_n rfl rfl rfl ?_
          refine q_getf rfl rfl (by decide) rfl rfl ?_
          refine q_iload_n rfl rfl rfl ?_
          refine q_iald rfl rfl (by decide) rfl (by decide) (q_tn (z := 0) rfl ?_)
          refine q_iast rfl rfl (by decide) rfl (by decide) ?_
          refine q_icc3 (z := 8) rfl rfl rfl rfl rfl ?_
          refine q_goto rfl ?_
          refine q_iload_n rfl rfl rfl ?_
          refine q_bipush rfl rfl ?_
          refine q_icge rfl rfl (fun c348 => absurd c348 (by decide)) (fun c348 => ?_)
          refine q_aload_n rfl rfl rfl ?_
          refine q_getf rfl rfl (by decide) rfl rfl ?_
          refine q_iload_n rfl rfl rfl ?_
          refine q_aload_n rfl rfl rfl ?_
          refine q_getf rfl rfl (by decide) rfl rfl ?_
          refine q_iload_n rfl rfl rfl ?_
          refine q_iald rfl rfl (by decide) rfl (by decide) (q_tn (z := 0) rfl ?_)
          refine q_iast rfl rfl (by decide) rfl (by decide) ?_
          refine q_icc3 (z := 9) rfl rfl rfl rfl rfl ?_
          refine q_goto rfl ?_
          refine q_iload_n rfl rfl rfl ?_
          refine q_bipush rfl rfl ?_
          refine q_icge rfl rfl (fun c349 => absurd c349 (by decide)) (fun c349 => ?_)
          refine q_aload_n rfl rfl rfl ?_
          refine q_getf rfl rfl (by decide) rfl rfl ?_
          refine q_iload_n rfl rfl rfl ?_
          refine q_aload_n rfl rfl rfl ?_
          refine q_getf rfl rfl (by decide) rfl rfl ?_
          refine q_iload_n rfl rfl rfl ?_
          refine q_iald rfl rfl (by decide) rfl (by decide) (q_tn (z := 0) rfl ?_)
          refine q_iast rfl rfl (by decide) rfl (by decide) ?_
          refine q_icc3 (z := 10) rfl rfl rfl rfl rfl ?_
          refine q_goto rfl ?_
          refine q_iload_n rfl rfl rfl ?_
          refine q_bipush rfl rfl ?_
          refine q_icge rfl rfl (fun c350 => absurd c350 (by decide)) (fun c350 => ?_)
          refine q_aload_n rfl rfl rfl ?_
          refine q_getf rfl rfl (by decide) rfl rfl ?_
          refine q_iload_n rfl rfl rfl ?_
          refine q_aload_n rfl rfl rfl ?_
          refine q_getf rfl rfl (by decide) rfl rfl ?_
          refine q_iload_n rfl rfl rfl ?_
          refine q_iald rfl rfl (by decide) rfl (by decide) (q_tn (z := 0) rfl ?_)
          refine q_iast rfl rfl (by decide) rfl (by decide) ?_
          refine q_icc3 (z := 11) rfl rfl rfl rfl rfl ?_
          refine q_goto rfl ?_
          refine q_iload_n rfl rfl rfl ?_
          refine q_bipush rfl rfl ?_
          refine q_icge rfl rfl (fun c351 => absurd c351 (by decide)) (fun c351 => ?_)
          refine q_aload_n rfl rfl rfl ?_
          refine q_getf rfl rfl (by decide) rfl rfl ?_
          refine q_iload_n rfl rfl rfl ?_
          refine q_aload_n rfl rfl rfl ?_
          refine q_getf rfl rfl (by decide) rfl rfl ?_
          refine q_iload_n rfl rfl rfl ?_
          refine q_iald rfl rfl (by decide) rfl (by decide) (q_tn (z := 0) rfl ?_)
          refine q_iast rfl rfl (by decide) rfl (by decide) ?_
          refine q_icc3 (z := 12) rfl rfl rfl rfl rfl ?_
          refine q_goto rfl ?_
          refine q_iload_n rfl rfl rfl ?_
          refine q_bipush rfl rfl ?_
          refine q_icge rfl rfl (fun c352 => absurd c352 (by decide)) (fun c352 => ?_)
          refine q_aload_n rfl rfl rfl ?_
          refine q_getf rfl rfl (by decide) rfl rfl ?_
          refine q_iload_n rfl rfl rfl ?_
          refine q_aload_n rfl rfl rfl ?_
          refine q_getf rfl rfl (by decide) rfl rfl ?_
          refine q_iload_n rfl rfl rfl ?_
          refine q_iald rfl rfl (by decide) rfl (by decide) (q_tn (z := 0) rfl ?_)
          refine q_iast rfl rfl (by decide) rfl (by decide) ?_
          refine q_icc3 (z := 13) rfl rfl rfl rfl rfl ?_
          refine q_goto rfl ?_
          refine q_iload_n rfl rfl rfl ?_
          refine q_bipush rfl rfl ?_
          refine q_icge rfl rfl (fun c353 => absurd c353 (by decide)) (fun c353 => ?_)
          refine q_aload_n rfl rfl rfl ?_
          refine q_getf rfl rfl (by decide) rfl rfl ?_
          refine q_iload_n rfl rfl rfl ?_
          refine q_aload_n rfl rfl rfl ?_
          refine q_getf rfl rfl (by decide) rfl rfl ?_
          refine q_iload_n rfl rfl rfl ?_
          refine q_iald rfl rfl (by decide) rfl (by decide) (q_tn (z := 0) rfl ?_)
          refine q_iast rfl rfl (by decide) rfl (by decide) ?_
          refine q_icc3 (z := 14) rfl rfl rfl rfl rfl ?_
          refine q_goto rfl ?_
          refine q_iload_n rfl rfl rfl ?_
          refine q_bipush rfl rfl ?_
          refine q_icge rfl rfl (fun c354 => absurd c354 (by decide)) (fun c354 => ?_)
          refine q_aload_n rfl rfl rfl ?_
          refine q_getf rfl rfl (by decide) rfl rfl ?_
          refine q_iload_n rfl rfl rfl ?_
          refine q_aload_n rfl rfl rfl ?_
          refine q_getf rfl rfl (by decide) rfl rfl ?_
          refine q_iload_n rfl rfl rfl ?_
          refine q_iald rfl rfl (by decide) rfl (by decide) (q_tn (z := 0) rfl ?_)
          refine q_iast rfl rfl (by decide) rfl (by decide) ?_
          refine q_icc3 (z := 15) rfl rfl rfl rfl rfl ?_
          refine q_goto rfl ?_
          refine q_iload_n rfl rfl rfl ?_
          refine q_bipush rfl rfl ?_
          refine q_icge rfl rfl (fun c355 => absurd c355 (by decide)) (fun c355 => ?_)
          refine q_aload_n rfl rfl rfl ?_
          refine q_getf rfl rfl (by decide) rfl rfl ?_
          refine q_iload_n rfl rfl rfl ?_
          refine q_aload_n rfl rfl rfl ?_
          refine q_getf rfl rfl (by decide) rfl rfl ?_
          refine q_iload_n rfl rfl rfl ?_
          refine q_iald rfl rfl (by decide) rfl (by decide) (q_tn (z := 0) rfl ?_)
          refine q_iast rfl rfl (by decide) rfl (by decide) ?_
          refine q_icc3 (z := 16) rfl rfl rfl rfl rfl ?_
          refine q_goto rfl ?_
          refine q_iload_n rfl rfl rfl ?_
          refine q_bipush rfl rfl ?_
          refine q_icge rfl rfl (fun c356 => absurd c356 (by decide)) (fun c356 => ?_)
          refine q_aload_n rfl rfl rfl ?_
          refine q_getf rfl rfl (by decide) rfl rfl ?_
          refine q_iload_n rfl rfl rfl ?_
          refine q_aload_n rfl rfl rfl ?_
          refine q_getf rfl rfl (by decide) rfl rfl ?_
          refine q_iload_n rfl rfl rfl ?_
          refine q_iald rfl rfl (by decide) rfl (by decide) (q_tn (z := 0) rfl ?_)
          refine q_iast rfl rfl (by decide) rfl (by decide) ?_
          refine q_icc3 (z := 17) rfl rfl rfl rfl rfl ?_
          refine q_goto rfl ?_
          refine q_iload_n rfl rfl rfl ?_
          refine q_bipush rfl rfl ?_
          refine q_icge rfl rfl (fun c357 => absurd c357 (by decide)) (fun c357 => ?_)
          refine q_aload_n rfl rfl rfl ?_
          refine q_getf rfl rfl (by decide) rfl rfl ?_
          refine q_iload_n rfl rfl rfl ?_
          refine q_aload_n rfl rfl rfl ?_
          refine q_getf rfl rfl (by decide) rfl rfl ?_
          refine q_iload_n rfl rfl rfl ?_
          refine q_iald rfl rfl (by decide) rfl (by decide) (q_tn (z := 0) rfl ?_)
          refine q_iast rfl rfl (by decide) rfl (by decide) ?_
          refine q_icc3 (z := 18) rfl rfl rfl rfl rfl ?_
          refine q_goto rfl ?_
          refine q_iload_n rfl rfl rfl ?_
          refine q_bipush rfl rfl ?_
          refine q_icge rfl rfl (fun c358 => absurd c358 (by decide)) (fun c358 => ?_)
          refine q_aload_n rfl rfl rfl ?_
          refine q_getf rfl rfl (by decide) rfl rfl ?_
          refine q_iload_n rfl rfl rfl ?_
          refine q_aload_n rfl rfl rfl ?_
          refine q_getf rfl rfl (by decide) rfl rfl ?_
          refine q_iload_n rfl rfl rfl ?_
          refine q_iald rfl rfl (by decide) rfl (by decide) (q_tn (z := 0) rfl ?_)
          refine q_iast rfl rfl (by decide) rfl (by decide) ?_
          refine q_icc3 (z := 19) rfl rfl rfl rfl rfl ?_
          refine q_goto rfl ?_
          refine q_iload_n rfl rfl rfl ?_
          refine q_bipush rfl rfl ?_
          refine q_icge rfl rfl (fun c359 => absurd c359 (by decide)) (fun c359 => ?_)
          refine q_aload_n rfl rfl rfl ?_
          refine q_getf rfl rfl (by decide) rfl rfl ?_
          refine q_iload_n rfl rfl rfl ?_
          refine q_aload_n rfl rfl rfl ?_
          refine q_getf rfl rfl (by decide) rfl rfl ?_
          refine q_iload_n rfl rfl rfl ?_
          refine q_iald rfl rfl (by decide) rfl (by decide) (q_tn (z := 0) rfl ?_)
          refine q_iast rfl rfl (by decide) rfl (by decide) ?_
          refine q_icc3 (z := 20) rfl rfl rfl rfl rfl ?_
          refine q_goto rfl ?_
          refine q_iload_n rfl rfl rfl ?_
          refine q_bipush rfl rfl ?_
          refine q_icge rfl rfl (fun c360 => ?_) (fun c360 => absurd (by decide) c360)
          refine q_aload_n rfl rfl rfl ?_
          refine q_iload_n rfl rfl rfl ?_
          refine q_iconst rfl rfl ?_
          refine q_iconst rfl rfl ?_
          refine q_nV3 rfl rfl (Or.inl rfl) rfl rfl rfl (by decide) rfl ⟨rfl, rfl⟩ rfl ?_
          change PQ _ _ _ mm_X12_put 0 [.ref 46, .int 0, .int (-1), .int (-1), pm_un, pm_un, pm_un] [] _ _ 0 0 _
          refine q_aload_n rfl rfl rfl ?_
          refine q_getf rfl rfl (by decide) rfl rfl ?_
          refine q_iload_n rfl rfl rfl ?_
          refine q_iald rfl rfl (by decide) rfl (by decide) (q_tn (z := 0) rfl ?_)
          refine q_ist4 rfl rfl rfl rfl ?_
          refine q_iload rfl rfl rfl ?_
          refine q_sipush rfl rfl ?_
          refine q_icne rfl rfl (fun c361 => absurd c361 (by decide)) (fun c361 => ?_)
          refine q_sipush rfl rfl ?_
          refine q_iload_n rfl rfl rfl ?_
          refine q_imul rfl rfl (q_tn (z := 0) rfl ?_)
          refine q_iload rfl rfl rfl ?_
          refine q_iadd rfl rfl (q_tn (z := 0) rfl ?_)
          refine q_ist5 rfl rfl rfl rfl ?_
          refine q_iconst rfl rfl ?_
          refine q_ist6 rfl rfl rfl rfl ?_
          refine q_iload rfl rfl rfl ?_
          refine q_bipush rfl rfl ?_
          refine q_icge rfl rfl (fun c362 => absurd c362 (by decide)) (fun c362 => ?_)
          refine q_aload_n rfl rfl rfl ?_
          refine q_getf rfl rfl (by decide) rfl rfl ?_
          refine q_bipush rfl rfl ?_
          refine q_iload rfl rfl rfl ?_
          refine q_imul rfl rfl (q_tn (z := 0) rfl ?_)
          refine q_iload rfl rfl rfl ?_
          refine q_iadd rfl rfl (q_tn (z := 0) rfl ?_)
          refine q_aload_n rfl rfl rfl ?_
          refine q_getf rfl rfl (by decide) rfl rfl ?_
          refine q_iload rfl rfl rfl ?_
          refine q_iald rfl rfl (by decide) rfl (by decide) (q_tn (z := 10) rfl ?_)
          refine q_iast rfl rfl (by decide) (FW_55 S hW) (by decide) ?_
          refine q_icc6 (z := 1) rfl rfl rfl rfl rfl ?_
          refine q_goto rfl ?_
          refine q_iload rfl rfl rfl ?_
          refine q_bipush rfl rfl ?_
          refine q_icge rfl rfl (fun c363 => absurd c363 (by decide)) (fun c363 => ?_)
          refine q_aload_n rfl rfl rfl ?_
          refine q_getf rfl rfl (by decide) rfl rfl ?_
          refine q_bipush rfl rfl ?_
          refine q_iload rfl rfl rfl ?_
          refine q_imul rfl rfl (q_tn (z := 0) rfl ?_)
          refine q_iload rfl rfl rfl ?_
          refine q_iadd rfl rfl (q_tn (z := 1) rfl ?_)
          refine q_aload_n rfl rfl rfl ?_
          refine q_getf rfl rfl (by decide) rfl rfl ?_
          refine q_iload rfl rfl rfl ?_
          refine q_iald rfl rfl (by decide) rfl (by decide) (q_tn (z := 0) rfl ?_)
          refine q_iast rfl rfl (by decide) rfl (by decide) ?_
          refine q_icc6 (z := 2) rfl rfl rfl rfl rfl ?_
          refine q_goto rfl ?_
          refine q_iload rfl rfl rfl ?_
          refine q_bipush rfl rfl ?_
          refine q_icge rfl rfl (fun c364 => absurd c364 (by decide)) (fun c364 => ?_)
          refine q_aload_n rfl rfl rfl ?_
          refine q_getf rfl rfl (by decide) rfl rfl ?_
          refine q_bipush rfl rfl ?_
          refine q_iload rfl rfl rfl ?_
          refine q_imul rfl rfl (q_tn (z := 0) rfl ?_)
          refine q_iload rfl rfl rfl ?_
          refine q_iadd rfl rfl (q_tn (z := 2) rfl ?_)
          refine q_aload_n rfl rfl rfl ?_
          refine q_getf rfl rfl (by decide) rfl rfl ?_
          refine q_iload rfl rfl rfl ?_
          refine q_iald rfl rfl (by decide) rfl (by decide) (q_tn (z := 0) rfl ?_)
          refine q_iast rfl rfl (by decide) rfl (by decide) ?_
          refine q_icc6 (z := 3) rfl rfl rfl rfl rfl ?_
          refine q_goto rfl ?_
          refine q_iload rfl rfl rfl ?_
          refine q_bipush rfl rfl ?_
          refine q_icge rfl rfl (fun c365 => absurd c365 (by decide)) (fun c365 => ?_)
          refine q_aload_n rfl rfl rfl ?_
          refine q_getf rfl rfl (by decide) rfl rfl ?_
          refine q_bipush rfl rfl ?_
          refine q_iload rfl rfl rfl ?_
          refine q_imul rfl rfl (q_tn (z := 0) rfl ?_)
          refine q_iload rfl rfl rfl ?_
          refine q_iadd rfl rfl (q_tn (z := 3) rfl ?_)
          refine q_aload_n rfl rfl rfl ?_
          refine q_getf rfl rfl (by decide) rfl rfl ?_
          refine q_iload rfl rfl rfl ?_
          refine q_iald rfl rfl (by decide) rfl (by decide) (q_tn (z := 0) rfl ?_)
          refine q_iast rfl rfl (by decide) rfl (by decide) ?_
          refine q_icc6 (z := 4) rfl rfl rfl rfl rfl ?_
          refine q_goto rfl ?_
          refine q_iload rfl rfl rfl ?_
          refine q_bipush rfl rfl ?_
          refine q_icge rfl rfl (fun c366 => absurd c366 (by decide)) (fun c366 => ?_)
          refine q_aload_n rfl rfl rfl ?_
          refine q_getf rfl rfl (by decide) rfl rfl ?_
          refine q_bipush rfl rfl ?_
          refine q_iload rfl rfl rfl ?_
          refine q_imul rfl rfl (q_tn (z := 0) rfl ?_)
          refine q_iload rfl rfl rfl ?_
          refine q_iadd rfl rfl (q_tn (z := 4) rfl ?_)
          refine q_aload_n rfl rfl rfl ?_
          refine q_getf rfl rfl (by decide) rfl rfl ?_
          refine q_iload rfl rfl rfl ?_
          refine q_iald rfl rfl (by decide) rfl (by decide) (q_tn (z := 0) rfl ?_)
          refine q_iast rfl rfl (by decide) rfl (by decide) ?_
          refine q_icc6 (z := 5) rfl rfl rfl rfl rfl ?_
          refine q_goto rfl ?_
          refine q_iload rfl rfl rfl ?_
          refine q_bipush rfl rfl ?_
          refine q_icge rfl rfl (fun c367 => absurd c367 (by decide)) (fun c367 => ?_)
          refine q_aload_n rfl rfl rfl ?_
          refine q_getf rfl rfl (by decide) rfl rfl ?_
          refine q_bipush rfl rfl ?_
          refine q_iload rfl rfl rfl ?_
          refine q_imul rfl rfl (q_tn (z := 0) rfl ?_)
          refine q_iload rfl rfl rfl ?_
          refine q_iadd rfl rfl (q_tn (z := 5) rfl ?_)
          refine q_aload_n rfl rfl rfl ?_
          refine q_getf rfl rfl (by decide) rfl rfl ?_
          refine q_iload rfl rfl rfl ?_
          refine q_iald rfl rfl (by decide) rfl (by decide) (q_tn (z := 0) rfl ?_)
          refine q_iast rfl rfl (by decide) rfl (by decide) ?_
          refine q_icc6 (z := 6) rfl rfl rfl rfl rfl ?_
          refine q_goto rfl ?_
          refine q_iload rfl rfl rfl ?_
          refine q_bipush rfl rfl ?_
          refine q_icge rfl rfl (fun c368 => absurd c368 (by decide)) (fun c368 => ?_)
          refine q_aload_n rfl rfl rfl ?_
          refine q_getf rfl rfl (by decide) rfl rfl ?_
          refine q_bipush rfl rfl ?_
          refine q_iload rfl rfl rfl ?_
          refine q_imul rfl rfl (q_tn (z := 0) rfl ?_)
          refine q_iload rfl rfl rfl ?_
          refine q_iadd rfl rfl (q_tn (z := 6) rfl ?_)
          refine q_aload_n rfl rfl rfl ?_
          refine q_getf rfl rfl (by decide) rfl rfl ?_
          refine q_iload rfl rfl rfl ?_
          refine q_iald rfl rfl (by decide) rfl (by decide) (q_tn (z := 0) rfl ?_)
          refine q_iast rfl rfl (by decide) rfl (by decide) ?_
          refine q_icc6 (z := 7) rfl rfl rfl rfl rfl ?_
          refine q_goto rfl ?_
          refine q_iload rfl rfl rfl ?_
          refine q_bipush rfl rfl ?_
          refine q_icge rfl rfl (fun c369 => absurd c369 (by decide)) (fun c369 => ?_)
          refine q_aload_n rfl rfl rfl ?_
          refine q_getf rfl rfl (by decide) rfl rfl ?_
          refine q_bipush rfl rfl ?_
          refine q_iload rfl rfl rfl ?_
          refine q_imul rfl rfl (q_tn (z := 0) rfl ?_)
          refine q_iload rfl rfl rfl ?_
          refine q_iadd rfl rfl (q_tn (z := 7) rfl ?_)
          refine q_aload_n rfl rfl rfl ?_
          refine q_getf rfl rfl (by decide) rfl rfl ?_
          refine q_iload rfl rfl rfl ?_
          refine q_iald rfl rfl (by decide) rfl (by decide) (q_tn (z := 0) rfl ?_)
          refine q_iast rfl rfl (by decide) rfl (by decide) ?_
          refine q_icc6 (z := 8) rfl rfl rfl rfl rfl ?_
          refine q_goto rfl ?_
          refine q_iload rfl rfl rfl ?_
          refine q_bipush rfl rfl ?_
          refine q_icge rfl rfl (fun c370 => absurd c370 (by decide)) (fun c370 => ?_)
          refine q_aload_n rfl rfl rfl ?_
          refine q_getf rfl rfl (by decide) rfl rfl ?_
          refine q_bipush rfl rfl ?_
          refine q_iload rfl rfl rfl ?_
          refine q_imul rfl rfl (q_tn (z := 0) rfl ?_)
          refine q_iload rfl rfl rfl ?_
          refine q_iadd rfl rfl (q_tn (z := 8) rfl ?_)
          refine q_aload_n rfl rfl rfl ?_
          refine q_getf rfl rfl (by decide) rfl rfl ?_
          refine q_iload rfl rfl rfl ?_
          refine q_iald rfl rfl (by decide) rfl (by decide) (q_tn (z := 0) rfl ?_)
          refine q_iast rfl rfl (by decide) rfl (by decide) ?_
          refine q_icc6 (z := 9) rfl rfl rfl rfl rfl ?_
          refine q_goto rfl ?_
          refine q_iload rfl rfl rfl ?_
          refine q_bipush rfl rfl ?_
          refine q_icge rfl rfl (fun c371 => absurd c371 (by decide)) (fun c371 => ?_)
          refine q_aload_n rfl rfl rfl ?_
          refine q_getf rfl rfl (by decide) rfl rfl ?_
          refine q_bipush rfl rfl ?_
          refine q_iload rfl rfl rfl ?_
          refine q_imul rfl rfl (q_tn (z := 0) rfl ?_)
          refine q_iload rfl rfl rfl ?_
          refine q_iadd rfl rfl (q_tn (z := 9) rfl ?_)
          refine q_aload_n rfl rfl rfl ?_
          refine q_getf rfl rfl (by decide) rfl rfl ?_
          refine q_iload rfl rfl rfl ?_
          refine q_iald rfl rfl (by decide) rfl (by decide) (q_tn (z := 0) rfl ?_)
          refine q_iast rfl rfl (by decide) rfl (by decide) ?_
          refine q_icc6 (z := 10) rfl rfl rfl rfl rfl ?_
          refine q_goto rfl ?_
          refine q_iload rfl rfl rfl ?_
          refine q_bipush rfl rfl ?_
          refine q_icge rfl rfl (fun c372 => absurd c372 (by decide)) (fun c372 => ?_)
          refine q_aload_n rfl rfl rfl ?_
          refine q_getf rfl rfl (by decide) rfl rfl ?_
          refine q_bipush rfl rfl ?_
          refine q_iload rfl rfl rfl ?_
          refine q_imul rfl rfl (q_tn (z := 0) rfl ?_)
          refine q_iload rfl rfl rfl ?_
          refine q_iadd rfl rfl (q_tn (z := 10) rfl ?_)
          refine q_aload_n rfl rfl rfl ?_
          refine q_getf rfl rfl (by decide) rfl rfl ?_
          refine q_iload rfl rfl rfl ?_
          refine q_iald rfl rfl (by decide) rfl (by decide) (q_tn (z := 0) rfl ?_)
          refine q_iast rfl rfl (by decide) rfl (by decide) ?_
          refine q_icc6 (z := 11) rfl rfl rfl rfl rfl ?_
          refine q_goto rfl ?_
          refine q_iload rfl rfl rfl ?_
          refine q_bipush rfl rfl ?_
          refine q_icge rfl rfl (fun c373 => absurd c373 (by decide)) (fun c373 => ?_)
          refine q_aload_n rfl rfl rfl ?_
          refine q_getf rfl rfl (by decide) rfl rfl ?_
          refine q_bipush rfl rfl ?_
          refine q_iload rfl rfl rfl ?_
          refine q_imul rfl rfl (q_tn (z := 0) rfl ?_)
          refine q_iload rfl rfl rfl ?_
          refine q_iadd rfl rfl (q_tn (z := 11) rfl ?_)
          refine q_aload_n rfl rfl rfl ?_
          refine q_getf rfl rfl (by decide) rfl rfl ?_
          refine q_iload rfl rfl rfl ?_
          refine q_iald rfl rfl (by decide) rfl (by decide) (q_tn (z := 0) rfl ?_)
          refine q_iast rfl rfl (by decide) rfl (by decide) ?_
          refine q_icc6 (z := 12) rfl rfl rfl rfl rfl ?_
          refine q_goto rfl ?_
          refine q_iload rfl rfl rfl ?_
          refine q_bipush rfl rfl ?_
          refine q_icge rfl rfl (fun c374 => absurd c374 (by decide)) (fun c374 => ?_)
          refine q_aload_n rfl rfl rfl ?_
          refine q_getf rfl rfl (by decide) rfl rfl ?_
          refine q_bipush rfl rfl ?_
          refine q_iload rfl rfl rfl ?_
          refine q_imul rfl rfl (q_tn (z := 0) rfl ?_)
          refine q_iload rfl rfl rfl ?_
          refine q_iadd rfl rfl (q_tn (z := 12) rfl ?_)
          refine q_aload_n rfl rfl rfl ?_
          refine q_getf rfl rfl (by decide) rfl rfl ?_
          refine q_iload rfl rfl rfl ?_
          refine q_iald rfl rfl (by decide) rfl (by decide) (q_tn (z := 0) rfl ?_)
          refine q_iast rfl rfl (by decide) rfl (by decide) ?_
          refine q_icc6 (z := 13) rfl rfl rfl rfl rfl ?_
          refine q_goto rfl ?_
          refine q_iload rfl rfl rfl ?_
          refine q_bipush rfl rfl ?_
          refine q_icge rfl rfl (fun c375 => absurd c375 (by decide)) (fun c375 => ?_)
          refine q_aload_n rfl rfl rfl ?_
          refine q_getf rfl rfl (by decide) rfl rfl ?_
          refine q_bipush rfl rfl ?_
          refine q_iload rfl rfl rfl ?_
          refine q_imul rfl rfl (q_tn (z := 0) rfl ?_)
          refine q_iload rfl rfl rfl ?_
          refine q_iadd rfl rfl (q_tn (z := 13) rfl ?_)
          refine q_aload_n rfl rfl rfl ?_
          refine q_getf rfl rfl (by decide) rfl rfl ?_
          refine q_iload rfl rfl rfl ?_
          refine q_iald rfl rfl (by decide) rfl (by decide) (q_tn (z := 0) rfl ?_)
          refine q_iast rfl rfl (by decide) rfl (by decide) ?_
          refine q_icc6 (z := 14) rfl rfl rfl rfl rfl ?_
          refine q_goto rfl ?_
          refine q_iload rfl rfl rfl ?_
          refine q_bipush rfl rfl ?_
          refine q_icge rfl rfl (fun c376 => absurd c376 (by decide)) (fun c376 => ?_)
          refine q_aload_n rfl rfl rfl ?_
          refine q_getf rfl rfl (by decide) rfl rfl ?_
          refine q_bipush rfl rfl ?_
          refine q_iload rfl rfl rfl ?_
          refine q_imul rfl rfl (q_tn (z := 0) rfl ?_)
          refine q_iload rfl rfl rfl ?_
          refine q_iadd rfl rfl (q_tn (z := 14) rfl ?_)
          refine q_aload_n rfl rfl rfl ?_
          refine q_getf rfl rfl (by decide) rfl rfl ?_
          refine q_iload rfl rfl rfl ?_
          refine q_iald rfl rfl (by decide) rfl (by decide) (q_tn (z := 0) rfl ?_)
          refine q_iast rfl rfl (by decide) rfl (by decide) ?_
          refine q_icc6 (z := 15) rfl rfl rfl rfl rfl ?_
          refine q_goto rfl ?_
          refine q_iload rfl rfl rfl ?_
          refine q_bipush rfl rfl ?_
          refine q_icge rfl rfl (fun c377 => absurd c377 (by decide)) (fun c377 => ?_)
          refine q_aload_n rfl rfl rfl ?_
          refine q_getf rfl rfl (by decide) rfl rfl ?_
          refine q_bipush rfl rfl ?_
          refine q_iload rfl rfl rfl ?_
          refine q_imul rfl rfl (q_tn (z := 0) rfl ?_)
          refine q_iload rfl rfl rfl ?_
          refine q_iadd rfl rfl (q_tn (z := 15) rfl ?_)
          refine q_aload_n rfl rfl rfl ?_
          refine q_getf rfl rfl (by decide) rfl rfl ?_
          refine q_iload rfl rfl rfl ?_
          refine q_iald rfl rfl (by decide) rfl (by decide) (q_tn (z := 0) rfl ?_)
          refine q_iast rfl rfl (by decide) rfl (by decide) ?_
          refine q_icc6 (z := 16) rfl rfl rfl rfl rfl ?_
          refine q_goto rfl ?_
          refine q_iload rfl rfl rfl ?_
          refine q_bipush rfl rfl ?_
          refine q_icge rfl rfl (fun c378 => absurd c378 (by decide)) (fun c378 => ?_)
          refine q_aload_n rfl rfl rfl ?_
          refine q_getf rfl rfl (by decide) rfl rfl ?_
          refine q_bipush rfl rfl ?_
          refine q_iload rfl rfl rfl ?_
          refine q_imul rfl rfl (q_tn (z := 0) rfl ?_)
          refine q_iload rfl rfl rfl ?_
          refine q_iadd rfl rfl (q_tn (z := 16) rfl ?_)
          refine q_aload_n rfl rfl rfl ?_
          refine q_getf rfl rfl (by decide) rfl rfl ?_
          refine q_iload rfl rfl rfl ?_
          refine q_iald rfl rfl (by decide) rfl (by decide) (q_tn (z := 0) rfl ?_)
          refine q_iast rfl rfl (by decide) rfl (by decide) ?_
          refine q_icc6 (z := 17) rfl rfl rfl rfl rfl ?_
          refine q_goto rfl ?_
          refine q_iload rfl rfl rfl ?_
          refine q_bipush rfl rfl ?_
          refine q_icge rfl rfl (fun c379 => absurd c379 (by decide)) (fun c379 => ?_)
          refine q_aload_n rfl rfl rfl ?_
          refine q_getf rfl rfl (by decide) rfl rfl ?_
          refine q_bipush rfl rfl ?_
          refine q_iload rfl rfl rfl ?_
          refine q_imul rfl rfl (q_tn (z := 0) rfl ?_)
          refine q_iload rfl rfl rfl ?_
          refine q_iadd rfl rfl (q_tn (z := 17) rfl ?_)
          refine q_aload_n rfl rfl rfl ?_
          refine q_getf rfl rfl (by decide) rfl rfl ?_
          refine q_iload rfl rfl rfl ?_
          refine q_iald rfl rfl (by decide) rfl (by decide) (q_tn (z := 0) rfl ?_)
          refine q_iast rfl rfl (by decide) rfl (by decide) ?_
          refine q_icc6 (z := 18) rfl rfl rfl rfl rfl ?_
          refine q_goto rfl ?_
          refine q_iload rfl rfl rfl ?_
          refine q_bipush rfl rfl ?_
          refine q_icge rfl rfl (fun c380 => absurd c380 (by decide)) (fun c380 => ?_)
          refine q_aload_n rfl rfl rfl ?_
          refine q_getf rfl rfl (by decide) rfl rfl ?_
          refine q_bipush rfl rfl ?_
          refine q_iload rfl rfl rfl ?_
          refine q_imul rfl rfl (q_tn (z := 0) rfl ?_)
          refine q_iload rfl rfl rfl ?_
          refine q_iadd rfl rfl (q_tn (z := 18) rfl ?_)
          refine q_aload_n rfl rfl rfl ?_
          refine q_getf rfl rfl (by decide) rfl rfl ?_
          refine q_iload rfl rfl rfl ?_
          refine q_iald rfl rfl (by decide) rfl (by decide) (q_tn (z := 0) rfl ?_)
          refine q_iast rfl rfl (by decide) rfl (by decide) ?_
          refine q_icc6 (z := 19) rfl rfl rfl rfl rfl ?_
          refine q_goto rfl ?_
          refine q_iload rfl rfl rfl ?_
          refine q_bipush rfl rfl ?_
          refine q_icge rfl rfl (fun c381 => absurd c381 (by decide)) (fun c381 => ?_)
          refine q_aload_n rfl rfl rfl ?_
          refine q_getf rfl rfl (by decide) rfl rfl ?_
          refine q_bipush rfl rfl ?_
          refine q_iload rfl rfl rfl ?_
          refine q_imul rfl rfl (q_tn (z := 0) rfl ?_)
          refine q_iload rfl rfl rfl ?_
          refine q_iadd rfl rfl (q_tn (z := 19) rfl ?_)
          refine q_aload_n rfl rfl rfl ?_
          refine q_getf rfl rfl (by decide) rfl rfl ?_
          refine q_iload rfl rfl rfl ?_
          refine q_iald rfl rfl (by decide) rfl (by decide) (q_tn (z := 0) rfl ?_)
          refine q_iast rfl rfl (by decide) rfl (by decide) ?_
          refine q_icc6 (z := 20) rfl rfl rfl rfl rfl ?_
          refine q_goto rfl ?_
          refine q_iload rfl rfl rfl ?_
          refine q_bipush rfl rfl ?_
          refine q_icge rfl rfl (fun c382 => ?_) (fun c382 => absurd (by decide) c382)
          refine q_aload_n rfl rfl rfl ?_
          refine q_getf rfl rfl (by decide) rfl rfl ?_
          refine q_iload rfl rfl rfl ?_
          refine q_iload_n rfl rfl rfl ?_
          refine q_iast rfl rfl (by decide) (FW_56 S hW) (by decide) ?_
          refine q_aload_n rfl rfl rfl ?_
          refine q_getf rfl rfl (by decide) rfl rfl ?_
          refine q_iload rfl rfl rfl ?_
          refine q_iload_n rfl rfl rfl ?_
          refine q_iast rfl rfl (by decide) (FW_57 S hW) (by decide) ?_
          refine q_aload_n rfl rfl rfl ?_
          refine q_iload_n rfl rfl rfl ?_
          refine q_nV1 rfl rfl (Or.inl rfl) rfl rfl rfl (by decide) rfl ⟨rfl, rfl⟩ rfl ?_
          change PQ _ _ _ mm_X12_rest 0 [.ref 46, .int 0, pm_un, pm_un] [] _ _ 0 0 _
          refine q_bipush rfl rfl ?_
          refine q_ist2n rfl rfl rfl rfl ?_
          refine q_iconst rfl rfl ?_
          refine q_ist3n rfl rfl rfl rfl ?_
          refine q_iload_n rfl rfl rfl ?_
          refine q_bipush rfl rfl ?_
          refine q_icge rfl rfl (fun c383 => absurd c383 (by decide)) (fun c383 => ?_)
          refine q_bipush rfl rfl ?_
          refine q_iload_n rfl rfl rfl ?_
          refine q_imul rfl rfl (q_tn (z := 527) rfl ?_)
          refine q_aload_n rfl rfl rfl ?_
          refine q_getf rfl rfl (by decide) rfl rfl ?_
          refine q_iload_n rfl rfl rfl ?_
          refine q_iald rfl rfl (by decide) rfl (by decide) (q_tn (z := 10) rfl ?_)
          refine q_iadd rfl rfl (q_tn (z := 537) rfl ?_)
          refine q_ist2n rfl rfl rfl rfl ?_
          refine q_icc3 (z := 1) rfl rfl rfl rfl rfl ?_
          refine q_goto rfl ?_
          refine q_iload_n rfl rfl rfl ?_
          refine q_bipush rfl rfl ?_
          refine q_icge rfl rfl (fun c384 => absurd c384 (by decide)) (fun c384 => ?_)
          refine q_bipush rfl rfl ?_
          refine q_iload_n rfl rfl rfl ?_
          refine q_imul rfl rfl (q_tn (z := 16647) rfl ?_)
          refine q_aload_n rfl rfl rfl ?_
          refine q_getf rfl rfl (by decide) rfl rfl ?_
          refine q_iload_n rfl rfl rfl ?_
          refine q_iald rfl rfl (by decide) rfl (by decide) (q_tn (z := 0) rfl ?_)
          refine q_iadd rfl rfl (q_tn (z := 16647) rfl ?_)
          refine q_ist2n rfl rfl rfl rfl ?_
          refine q_icc3 (z := 2) rfl rfl rfl rfl rfl ?_
          refine q_goto rfl ?_
          refine q_iload_n rfl rfl rfl ?_
          refine q_bipush rfl rfl ?_
          refine q_icge rfl rfl (fun c385 => absurd c385 (by decide)) (fun c385 => ?_)
          refine q_bipush rfl rfl ?_
          refine q_iload_n rfl rfl rfl ?_
          refine q_imul rfl rfl (q_tn (z := 516057) rfl ?_)
          refine q_aload_n rfl rfl rfl ?_
          refine q_getf rfl rfl (by decide) rfl rfl ?_
          refine q_iload_n rfl rfl rfl ?_
          refine q_iald rfl rfl (by decide) rfl (by decide) (q_tn (z := 0) rfl ?_)
          refine q_iadd rfl rfl (q_tn (z := 516057) rfl ?_)
          refine q_ist2n rfl rfl rfl rfl ?_
          refine q_icc3 (z := 3) rfl rfl rfl rfl rfl ?_
          refine q_goto rfl ?_
          refine q_iload_n rfl rfl rfl ?_
          refine q_bipush rfl rfl ?_
          refine q_icge rfl rfl (fun c386 => absurd c386 (by decide)) (fun c386 => ?_)
          refine q_bipush rfl rfl ?_
          refine q_iload_n rfl rfl rfl ?_
          refine q_imul rfl rfl (q_tn (z := 15997767) rfl ?_)
          refine q_aload_n rfl rfl rfl ?_
          refine q_getf rfl rfl (by decide) rfl rfl ?_
          refine q_iload_n rfl rfl rfl ?_
          refine q_iald rfl rfl (by decide) rfl (by decide) (q_tn (z := 0) rfl ?_)
          refine q_iadd rfl rfl (q_tn (z := 15997767) rfl ?_)
          refine q_ist2n rfl rfl rfl rfl ?_
          refine q_icc3 (z := 4) rfl rfl rfl rfl rfl ?_
          refine q_goto rfl ?_
          refine q_iload_n rfl rfl rfl ?_
          refine q_bipush rfl rfl ?_
          refine q_icge rfl rfl (fun c387 => absurd c387 (by decide)) (fun c387 => ?_)
          refine q_bipush rfl rfl ?_
          refine q_iload_n rfl rfl rfl ?_
          refine q_imul rfl rfl (q_tn (z := 495930777) rfl ?_)
          refine q_aload_n rfl rfl rfl ?_
          refine q_getf rfl rfl (by decide) rfl rfl ?_
          refine q_iload_n rfl rfl rfl ?_
          refine q_iald rfl rfl (by decide) rfl (by decide) (q_tn (z := 0) rfl ?_)
          refine q_iadd rfl rfl (q_tn (z := 495930777) rfl ?_)
          refine q_ist2n rfl rfl rfl rfl ?_
          refine q_icc3 (z := 5) rfl rfl rfl rfl rfl ?_
          refine q_goto rfl ?_
          refine q_iload_n rfl rfl rfl ?_
          refine q_bipush rfl rfl ?_
          refine q_icge rfl rfl (fun c388 => absurd c388 (by decide)) (fun c388 => ?_)
          refine q_bipush rfl rfl ?_
          refine q_iload_n rfl rfl rfl ?_
          refine q_imul rfl rfl (q_tn (z := (-1806015097)) rfl ?_)
          refine q_aload_n rfl rfl rfl ?_
          refine q_getf rfl rfl (by decide) rfl rfl ?_
          refine q_iload_n rfl rfl rfl ?_
          refine q_iald rfl rfl (by decide) rfl (by decide) (q_tn (z := 0) rfl ?_)
          refine q_iadd rfl rfl (q_tn (z := (-1806015097)) rfl ?_)
          refine q_ist2n rfl rfl rfl rfl ?_
          refine q_icc3 (z := 6) rfl rfl rfl rfl rfl ?_
          refine q_goto rfl ?_
          refine q_iload_n rfl rfl rfl ?_
          refine q_bipush rfl rfl ?_
          refine q_icge rfl rfl (fun c389 => absurd c389 (by decide)) (fun c389 => ?_)
          refine q_bipush rfl rfl ?_
          refine q_iload_n rfl rfl rfl ?_
          refine q_imul rfl rfl (q_tn (z := (-151893159)) rfl ?_)
          refine q_aload_n rfl rfl rfl ?_
          refine q_getf rfl rfl (by decide) rfl rfl ?_
          refine q_iload_n rfl rfl rfl ?_
          refine q_iald rfl rfl (by decide) rfl (by decide) (q_tn (z := 0) rfl ?_)
          refine q_iadd rfl rfl (q_tn (z := (-151893159)) rfl ?_)
          refine q_ist2n rfl rfl rfl rfl ?_
          refine q_icc3 (z := 7) rfl rfl rfl rfl rfl ?_
          refine q_goto rfl ?_
          refine q_iload_n rfl rfl rfl ?_
          refine q_bipush rfl rfl ?_
          refine q_icge rfl rfl (fun c390 => absurd c390 (by decide)) (fun c390 => ?_)
          refine q_bipush rfl rfl ?_
          refine q_iload_n rfl rfl rfl ?_
          refine q_imul rfl rfl (q_tn (z := (-413720633)) rfl ?_)
          refine q_aload_n rfl rfl rfl ?_
          refine q_getf rfl rfl (by decide) rfl rfl ?_
          refine q_iload_n rfl rfl rfl ?_
          refine q_iald rfl rfl (by decide) rfl (by decide) (q_tn (z := 0) rfl ?_)
          refine q_iadd rfl rfl (q_tn (z := (-413720633)) rfl ?_)
          refine q_ist2n rfl rfl rfl rfl ?_
          refine q_icc3 (z := 8) rfl rfl rfl rfl rfl ?_
          refine q_goto rfl ?_
          refine q_iload_n rfl rfl rfl ?_
          refine q_bipush rfl rfl ?_
          refine q_icge rfl rfl (fun c391 => absurd c391 (by decide)) (fun c391 => ?_)
          refine q_bipush rfl rfl ?_
          refine q_iload_n rfl rfl rfl ?_
          refine q_imul rfl rfl (q_tn (z := 59562265) rfl ?_)
          refine q_aload_n rfl rfl rfl ?_
          refine q_getf rfl rfl (by decide) rfl rfl ?_
          refine q_iload_n rfl rfl rfl ?_
          refine q_iald rfl rfl (by decide) rfl (by decide) (q_tn (z := 0) rfl ?_)
          refine q_iadd rfl rfl (q_tn (z := 59562265) rfl ?_)
          refine q_ist2n rfl rfl rfl rfl ?_
          refine q_icc3 (z := 9) rfl rfl rfl rfl rfl ?_
          refine q_goto rfl ?_
          refine q_iload_n rfl rfl rfl ?_
          refine q_bipush rfl rfl ?_
          refine q_icge rfl rfl (fun c392 => absurd c392 (by decide)) (fun c392 => ?_)
          refine q_bipush rfl rfl ?_
          refine q_iload_n rfl rfl rfl ?_
          refine q_imul rfl rfl (q_tn (z := 1846430215) rfl ?_)
          refine q_aload_n rfl rfl rfl ?_
          refine q_getf rfl rfl (by decide) rfl rfl ?_
          refine q_iload_n rfl rfl rfl ?_
          refine q_iald rfl rfl (by decide) rfl (by decide) (q_tn (z := 0) rfl ?_)
          refine q_iadd rfl rfl (q_tn (z := 1846430215) rfl ?_)
          refine q_ist2n rfl rfl rfl rfl ?_
          refine q_icc3 (z := 10) rfl rfl rfl rfl rfl ?_
          refine q_goto rfl ?_
          refine q_iload_n rfl rfl rfl ?_
          refine q_bipush rfl rfl ?_
          refine q_icge rfl rfl (fun c393 => absurd c393 (by decide)) (fun c393 => ?_)
          refine q_bipush rfl rfl ?_
          refine q_iload_n rfl rfl rfl ?_
          refine q_imul rfl rfl (q_tn (z := 1404761817) rfl ?_)
          refine q_aload_n rfl rfl rfl ?_
          refine q_getf rfl rfl (by decide) rfl rfl ?_
          refine q_iload_n rfl rfl rfl ?_
          refine q_iald rfl rfl (by decide) rfl (by decide) (q_tn (z := 0) rfl ?_)
          refine q_iadd rfl rfl (q_tn (z := 1404761817) rfl ?_)
          refine q_ist2n rfl rfl rfl rfl ?_
          refine q_icc3 (z := 11) rfl rfl rfl rfl rfl ?_
          refine q_goto rfl ?_
          refine q_iload_n rfl rfl rfl ?_
          refine q_bipush rfl rfl ?_
          refine q_icge rfl rfl (fun c394 => absurd c394 (by decide)) (fun c394 => ?_)
          refine q_bipush rfl rfl ?_
          refine q_iload_n rfl rfl rfl ?_
          refine q_imul rfl rfl (q_tn (z := 597943367) rfl ?_)
          refine q_aload_n rfl rfl rfl ?_
          refine q_getf rfl rfl (by decide) rfl rfl ?_
          refine q_iload_n rfl rfl rfl ?_
          refine q_iald rfl rfl (by decide) rfl (by decide) (q_tn (z := 0) rfl ?_)
          refine q_iadd rfl rfl (q_tn (z := 597943367) rfl ?_)
          refine q_ist2n rfl rfl rfl rfl ?_
          refine q_icc3 (z := 12) rfl rfl rfl rfl rfl ?_
          refine q_goto rfl ?_
          refine q_iload_n rfl rfl rfl ?_
          refine q_bipush rfl rfl ?_
          refine q_icge rfl rfl (fun c395 => absurd c395 (by decide)) (fun c395 => ?_)
          as_aux_lemma =>
            refine q_bipush rfl rfl ?_
            refine q_iload_n rfl rfl rfl ?_
            refine q_imul rfl rfl (q_tn (z := 1356375193) rfl ?_)
            refine q_aload_n rfl rfl rfl ?_
            refine q_getf rfl rfl (by decide) rfl rfl ?_
            refine q_iload_n rfl rfl rfl ?_
            refine q_iald rfl rfl (by decide) rfl (by decide) (q_tn (z := 0) rfl ?_)
            refine q_iadd rfl rfl (q_tn (z := 1356375193) rfl ?_)
            refine q_ist2n rfl rfl rfl rfl ?_
            refine q_icc3 (z := 13) rfl rfl rfl rfl rfl ?_
            refine q_goto rfl ?_
            refine q_iload_n rfl rfl rfl ?_
            refine q_bipush rfl rfl ?_
            refine q_icge rfl rfl (fun c396 => absurd c396 (by decide)) (fun c396 => ?_)
            refine q_bipush rfl rfl ?_
            refine q_iload_n rfl rfl rfl ?_
            refine q_imul rfl rfl (q_tn (z := (-902041977)) rfl ?_)
            refine q_aload_n rfl rfl rfl ?_
            refine q_getf rfl rfl (by decide) rfl rfl ?_
            refine q_iload_n rfl rfl rfl ?_
            refine q_iald rfl rfl (by decide) rfl (by decide) (q_tn (z := 0) rfl ?_)
            refine q_iadd rfl rfl (q_tn (z := (-902041977)) rfl ?_)
            refine q_ist2n rfl rfl rfl rfl ?_
            refine q_icc3 (z := 14) rfl rfl rfl rfl rfl ?_
            refine q_goto rfl ?_
            refine q_iload_n rfl rfl rfl ?_
            refine q_bipush rfl rfl ?_
            refine q_icge rfl rfl (fun c397 => absurd c397 (by decide)) (fun c397 => ?_)
            refine q_bipush rfl rfl ?_
            refine q_iload_n rfl rfl rfl ?_
            refine q_imul rfl rfl (q_tn (z := 2101469785) rfl ?_)
            refine q_aload_n rfl rfl rfl ?_
            refine q_getf rfl rfl (by decide) rfl rfl ?_
            refine q_iload_n rfl rfl rfl ?_
            refine q_iald rfl rfl (by decide) rfl (by decide) (q_tn (z := 0) rfl ?_)
            refine q_iadd rfl rfl (q_tn (z := 2101469785) rfl ?_)
            refine q_ist2n rfl rfl rfl rfl ?_
            refine q_icc3 (z := 15) rfl rfl rfl rfl rfl ?_
            refine q_goto rfl ?_
            refine q_iload_n rfl rfl rfl ?_
            refine q_bipush rfl rfl ?_
            refine q_icge rfl rfl (fun c398 => absurd c398 (by decide)) (fun c398 => ?_)
            refine q_bipush rfl rfl ?_
            refine q_iload_n rfl rfl rfl ?_
            refine q_imul rfl rfl (q_tn (z := 721053895) rfl ?_)
            refine q_aload_n rfl rfl rfl ?_
            refine q_getf rfl rfl (by decide) rfl rfl ?_
            refine q_iload_n rfl rfl rfl ?_
            refine q_iald rfl rfl (by decide) rfl (by decide) (q_tn (z := 0) rfl ?_)
            refine q_iadd rfl rfl (q_tn (z := 721053895) rfl ?_)
            refine q_ist2n rfl rfl rfl rfl ?_
            refine q_icc3 (z := 16) rfl rfl rfl rfl rfl ?_
            refine q_goto rfl ?_
            refine q_iload_n rfl rfl rfl ?_
            refine q_bipush rfl rfl ?_
            refine q_icge rfl rfl (fun c399 => absurd c399 (by decide)) (fun c399 => ?_)
            refine q_bipush rfl rfl ?_
            refine q_iload_n rfl rfl rfl ?_
            refine q_imul rfl rfl (q_tn (z := 877834265) rfl ?_)
            refine q_aload_n rfl rfl rfl ?_
            refine q_getf rfl rfl (by decide) rfl rfl ?_
            refine q_iload_n rfl rfl rfl ?_
            refine q_iald rfl rfl (by decide) rfl (by decide) (q_tn (z := 0) rfl ?_)
            refine q_iadd rfl rfl (q_tn (z := 877834265) rfl ?_)
            refine q_ist2n rfl rfl rfl rfl ?_
            refine q_icc3 (z := 17) rfl rfl rfl rfl rfl ?_
            refine q_goto rfl ?_
            refine q_iload_n rfl rfl rfl ?_
            refine q_bipush rfl rfl ?_
            refine q_icge rfl rfl (fun c400 => absurd c400 (by decide)) (fun c400 => ?_)
            refine q_bipush rfl rfl ?_
            refine q_iload_n rfl rfl rfl ?_
            refine q_imul rfl rfl (q_tn (z := 1443058439) rfl ?_)
            refine q_aload_n rfl rfl rfl ?_
            refine q_getf rfl rfl (by decide) rfl rfl ?_
            refine q_iload_n rfl rfl rfl ?_
            refine q_iald rfl rfl (by decide) rfl (by decide) (q_tn (z := 0) rfl ?_)
            refine q_iadd rfl rfl (q_tn (z := 1443058439) rfl ?_)
            refine q_ist2n rfl rfl rfl rfl ?_
            refine q_icc3 (z := 18) rfl rfl rfl rfl rfl ?_
            refine q_goto rfl ?_
            refine q_iload_n rfl rfl rfl ?_
            refine q_bipush rfl rfl ?_
            refine q_icge rfl rfl (fun c401 => absurd c401 (by decide)) (fun c401 => ?_)
            refine q_bipush rfl rfl ?_
            refine q_iload_n rfl rfl rfl ?_
            refine q_imul rfl rfl (q_tn (z := 1785138649) rfl ?_)
            refine q_aload_n rfl rfl rfl ?_
            refine q_getf rfl rfl (by decide) rfl rfl ?_
            refine q_iload_n rfl rfl rfl ?_
            refine q_iald rfl rfl (by decide) rfl (by decide) (q_tn (z := 0) rfl ?_)
            refine q_iadd rfl rfl (q_tn (z := 1785138649) rfl ?_)
            refine q_ist2n rfl rfl rfl rfl ?_
            refine q_icc3 (z := 19) rfl rfl rfl rfl rfl ?_
            refine q_goto rfl ?_
            refine q_iload_n rfl rfl rfl ?_
            refine q_bipush rfl rfl ?_
            refine q_icge rfl rfl (fun c402 => absurd c402 (by decide)) (fun c402 => ?_)
            refine q_bipush rfl rfl ?_
            refine q_iload_n rfl rfl rfl ?_
            refine q_imul rfl rfl (q_tn (z := (-495276729)) rfl ?_)
            refine q_aload_n rfl rfl rfl ?_
            refine q_getf rfl rfl (by decide) rfl rfl ?_
            refine q_iload_n rfl rfl rfl ?_
            refine q_iald rfl rfl (by decide) rfl (by decide) (q_tn (z := 0) rfl ?_)
            refine q_iadd rfl rfl (q_tn (z := (-495276729)) rfl ?_)
            refine q_ist2n rfl rfl rfl rfl ?_
            refine q_icc3 (z := 20) rfl rfl rfl rfl rfl ?_
            refine q_goto rfl ?_
            refine q_iload_n rfl rfl rfl ?_
            refine q_bipush rfl rfl ?_
            refine q_icge rfl rfl (fun c403 => ?_) (fun c403 => absurd (by decide) c403)
            refine q_sipush rfl rfl ?_
            refine q_iload_n rfl rfl rfl ?_
            refine q_imul rfl rfl (q_tn (z := 0) rfl ?_)
            refine q_iload_n rfl rfl rfl ?_
            refine q_iload_n rfl rfl rfl ?_
            refine q_bipush rfl rfl ?_
            refine q_iushr rfl rfl (q_tn (z := 463829) rfl ?_)
            refine q_ixor rfl rfl (q_tn (z := (-495075694)) rfl ?_)
            refine q_sipush rfl rfl ?_
            refine q_irem rfl rfl (by decide) (q_tn (z := (-366)) rfl ?_)
            refine q_iload_n rfl rfl rfl ?_
            refine q_iload_n rfl rfl rfl ?_
            refine q_bipush rfl rfl ?_
            refine q_iushr rfl rfl (q_tn (z := 463829) rfl ?_)
            refine q_ixor rfl rfl (q_tn (z := (-495075694)) rfl ?_)
            refine q_sipush rfl rfl ?_
            refine q_irem rfl rfl (by decide) (q_tn (z := (-366)) rfl ?_)
            refine q_ifge rfl rfl (fun c404 => absurd c404 (by decide)) (fun c404 => ?_)
            refine q_iconst rfl rfl ?_
            refine q_goto rfl ?_
            refine q_imul rfl rfl (q_tn (z := 366) rfl ?_)
            refine q_iadd rfl rfl (q_tn (z := 366) rfl ?_)
            refine q_iret rfl rfl trivial ?_
            refine ⟨_, rfl, ?_⟩
            refine q_ist6 rfl rfl rfl rfl ?_
            refine q_aload_n rfl rfl rfl ?_
            refine q_getf rfl rfl (by decide) rfl rfl ?_
            refine q_iload rfl rfl rfl ?_
            refine q_aload_n rfl rfl rfl ?_
            refine q_getf rfl rfl (by decide) rfl rfl ?_
            refine q_iload rfl rfl rfl ?_
            refine q_iald rfl rfl (by decide) rfl (by decide) (q_tn (z := (-1)) rfl ?_)
            refine q_iast rfl rfl (by decide) (FW_58 S hW) (by decide) ?_
            refine q_aload_n rfl rfl rfl ?_
            refine q_getf rfl rfl (by decide) rfl rfl ?_
            refine q_iload rfl rfl rfl ?_
            refine q_iload rfl rfl rfl ?_
            refine q_iast rfl rfl (by decide) rfl (by decide) ?_
            refine q_aload_n rfl rfl rfl ?_
            refine q_getf rfl rfl (by decide) rfl rfl ?_
            refine q_iload_n rfl rfl rfl ?_
            refine q_dup2 rfl rfl ?_
            refine q_iald rfl rfl (by decide) rfl (by decide) (q_tn (z := 0) rfl ?_)
            refine q_iconst rfl rfl ?_
            refine q_iadd rfl rfl (q_tn (z := 1) rfl ?_)
            refine q_iast rfl rfl (by decide) rfl (by decide) ?_
            refine q_iload rfl rfl rfl ?_
            refine q_iret rfl rfl trivial ?_
            refine ⟨_, rfl, ?_⟩
            refine q_ist3n rfl rfl rfl rfl ?_
            refine q_iconst rfl rfl ?_
            refine q_ist4 rfl rfl rfl rfl ?_
            refine q_iload rfl rfl rfl ?_
            refine q_aload_n rfl rfl rfl ?_
            refine q_getf rfl rfl (by decide) rfl rfl ?_
            refine q_iload_n rfl rfl rfl ?_
            refine q_iald rfl rfl (by decide) rfl (by decide) (q_tn (z := 1) rfl ?_)
            refine q_icge rfl rfl (fun c405 => absurd c405 (by decide)) (fun c405 => ?_)
            refine q_iconst rfl rfl ?_
            refine q_ist5 rfl rfl rfl rfl ?_
            refine q_iload rfl rfl rfl ?_
            refine q_iconst rfl rfl ?_
            refine q_icge rfl rfl (fun c406 => absurd c406 (by decide)) (fun c406 => ?_)
            refine q_iconst rfl rfl ?_
            refine q_sipush rfl rfl ?_
            refine q_iload_n rfl rfl rfl ?_
            refine q_imul rfl rfl (q_tn (z := 0) rfl ?_)
            refine q_iload rfl rfl rfl ?_
            refine q_iadd rfl rfl (q_tn (z := 0) rfl ?_)
            refine q_imul rfl rfl (q_tn (z := 0) rfl ?_)
            refine q_iload rfl rfl rfl ?_
            refine q_iadd rfl rfl (q_tn (z := 0) rfl ?_)
            refine q_ist6 rfl rfl rfl rfl ?_
            refine q_aload_n rfl rfl rfl ?_
            refine q_getf rfl rfl (by decide) rfl rfl ?_
            refine q_iload rfl rfl rfl ?_
            refine q_iconst rfl rfl ?_
            refine q_iast rfl rfl (by decide) (FW_59 S hW) (by decide) ?_
            refine q_aload_n rfl rfl rfl ?_
            refine q_iload_n rfl rfl rfl ?_
            refine q_iload rfl rfl rfl ?_
            refine q_cV2v rfl rfl (Or.inl rfl) rfl rfl rfl (by decide) rfl ⟨rfl, rfl⟩ rfl (fun K' hK' => l_sa (R := 0) (by decide) rfl (by decide) rfl rfl rfl rfl rfl hK') ?_
            refine q_iload rfl rfl rfl ?_
            refine q_aload_n rfl rfl rfl ?_
            refine q_getf rfl rfl (by decide) rfl rfl ?_
            refine q_icge rfl rfl (fun c407 => absurd c407 (by decide)) (fun c407 => ?_)
            refine q_aload_n rfl rfl rfl ?_
            refine q_iload rfl rfl rfl ?_
            refine q_iload_n rfl rfl rfl ?_
            refine q_nV2 rfl rfl (Or.inl rfl) rfl rfl rfl (by decide) rfl ⟨rfl, rfl⟩ rfl ?_
            change PQ _ _ _ mm_X12_maySteps 0 [.ref 46, .int 0, .int 0, pm_un, pm_un, pm_un] [] _ _ 0 0 _
            refine q_aload_n rfl rfl rfl ?_
            refine q_iload_n rfl rfl rfl ?_
            refine q_iload_n rfl rfl rfl ?_
            refine q_nV2 rfl rfl (Or.inl rfl) rfl rfl rfl (by decide) rfl ⟨rfl, rfl⟩ rfl ?_
            change PQ _ _ _ mm_X12_canStep 0 [.ref 46, .int 0, .int 0, pm_un] [] _ _ 0 0 _
            refine q_aload_n rfl rfl rfl ?_
            refine q_iload_n rfl rfl rfl ?_
            refine q_nV1 rfl rfl (Or.inl rfl) rfl rfl rfl (by decide) rfl ⟨rfl, rfl⟩ rfl ?_
            change PQ _ _ _ mm_X12_isOver 0 [.ref 46, .int 0] [] _ _ 0 0 _
            refine q_aload_n rfl rfl rfl ?_
            refine q_getf rfl rfl (by decide) rfl rfl ?_
            refine q_iconst rfl rfl ?_
            refine q_iload_n rfl rfl rfl ?_
            refine q_imul rfl rfl (q_tn (z := 0) rfl ?_)
            refine q_iald rfl rfl (by decide) rfl (by decide) (q_tn (z := 10) rfl ?_)
            refine q_bipush rfl rfl ?_
            refine q_iclt rfl rfl (fun c408 => absurd c408 (by decide)) (fun c408 => ?_)
            refine q_iconst rfl rfl ?_
            refine q_goto rfl ?_
            refine q_iret rfl rfl rfl ?_
            refine ⟨_, rfl, ?_⟩
            refine q_ifeq rfl rfl (fun c409 => absurd c409 (by decide)) (fun c409 => ?_)
            refine q_iconst rfl rfl ?_
            refine q_iret rfl rfl rfl ?_
            refine ⟨_, rfl, ?_⟩
            refine q_ifne rfl rfl (fun c410 => ?_) (fun c410 => absurd (by decide) c410)
            refine q_iconst rfl rfl ?_
            refine q_iret rfl rfl rfl ?_
            refine ⟨_, rfl, ?_⟩
            refine q_ifne rfl rfl (fun c411 => ?_) (fun c411 => absurd (by decide) c411)
            refine q_goto rfl ?_
            refine q_icc5 (z := 1) rfl rfl rfl rfl rfl ?_
            refine q_goto rfl ?_
            refine q_iload rfl rfl rfl ?_
            refine q_iconst rfl rfl ?_
            refine q_icge rfl rfl (fun c412 => absurd c412 (by decide)) (fun c412 => ?_)
            refine q_iconst rfl rfl ?_
            refine q_sipush rfl rfl ?_
            refine q_iload_n rfl rfl rfl ?_
            refine q_imul rfl rfl (q_tn (z := 0) rfl ?_)
            refine q_iload rfl rfl rfl ?_
            refine q_iadd rfl rfl (q_tn (z := 0) rfl ?_)
            refine q_imul rfl rfl (q_tn (z := 0) rfl ?_)
            refine q_iload rfl rfl rfl ?_
            refine q_iadd rfl rfl (q_tn (z := 1) rfl ?_)
            refine q_ist6 rfl rfl rfl rfl ?_
            refine q_aload_n rfl rfl rfl ?_
            refine q_getf rfl rfl (by decide) rfl rfl ?_
            refine q_iload rfl rfl rfl ?_
            refine q_iconst rfl rfl ?_
            refine q_iast rfl rfl (by decide) rfl (by decide) ?_
            refine q_aload_n rfl rfl rfl ?_
            refine q_iload_n rfl rfl rfl ?_
            refine q_iload rfl rfl rfl ?_
            refine q_cV2v rfl rfl (Or.inl rfl) rfl rfl rfl (by decide) rfl ⟨rfl, rfl⟩ rfl (fun K' hK' => l_sa (R := 0) (by decide) rfl (by decide) rfl rfl rfl rfl rfl hK') ?_
            refine q_iload rfl rfl rfl ?_
            refine q_aload_n rfl rfl rfl ?_
            refine q_getf rfl rfl (by decide) rfl rfl ?_
            refine q_icge rfl rfl (fun c413 => ?_) (fun c413 => absurd (by decide) c413)
            refine q_icc5 (z := 2) rfl rfl rfl rfl rfl ?_
            refine q_goto rfl ?_
            refine q_iload rfl rfl rfl ?_
            refine q_iconst rfl rfl ?_
            refine q_icge rfl rfl (fun c414 => absurd c414 (by decide)) (fun c414 => ?_)
            refine q_iconst rfl rfl ?_
            refine q_sipush rfl rfl ?_
            refine q_iload_n rfl rfl rfl ?_
            refine q_imul rfl rfl (q_tn (z := 0) rfl ?_)
            refine q_iload rfl rfl rfl ?_
            refine q_iadd rfl rfl (q_tn (z := 0) rfl ?_)
            refine q_imul rfl rfl (q_tn (z := 0) rfl ?_)
            refine q_iload rfl rfl rfl ?_
            refine q_iadd rfl rfl (q_tn (z := 2) rfl ?_)
            refine q_ist6 rfl rfl rfl rfl ?_
            refine q_aload_n rfl rfl rfl ?_
            refine q_getf rfl rfl (by decide) rfl rfl ?_
            refine q_iload rfl rfl rfl ?_
            refine q_iconst rfl rfl ?_
            refine q_iast rfl rfl (by decide) rfl (by decide) ?_
            refine q_aload_n rfl rfl rfl ?_
            refine q_iload_n rfl rfl rfl ?_
            refine q_iload rfl rfl rfl ?_
            refine q_cV2v rfl rfl (Or.inl rfl) rfl rfl rfl (by decide) rfl ⟨rfl, rfl⟩ rfl (fun K' hK' => l_sa (R := 0) (by decide) rfl (by decide) rfl rfl rfl rfl rfl hK') ?_
            refine q_iload rfl rfl rfl ?_
            refine q_aload_n rfl rfl rfl ?_
            refine q_getf rfl rfl (by decide) rfl rfl ?_
            refine q_icge rfl rfl (fun c415 => ?_) (fun c415 => absurd (by decide) c415)
            refine q_icc5 (z := 3) rfl rfl rfl rfl rfl ?_
            refine q_goto rfl ?_
            refine q_iload rfl rfl rfl ?_
            refine q_iconst rfl rfl ?_
            refine q_icge rfl rfl (fun c416 => ?_) (fun c416 => absurd (by decide) c416)
            refine q_icc4 (z := 1) rfl rfl rfl rfl rfl ?_
            refine q_goto rfl ?_
            refine q_iload rfl rfl rfl ?_
            refine q_aload_n rfl rfl rfl ?_
            refine q_getf rfl rfl (by decide) rfl rfl ?_
            refine q_iload_n rfl rfl rfl ?_
            refine q_iald rfl rfl (by decide) rfl (by decide) (q_tn (z := 1) rfl ?_)
            refine q_icge rfl rfl (fun c417 => ?_) (fun c417 => absurd (by decide) c417)
            refine q_iconst rfl rfl ?_
            refine q_iret rfl rfl rfl ?_
            refine ⟨_, rfl, ?_⟩
            refine q_ifeq rfl rfl (fun c418 => absurd c418 (by decide)) (fun c418 => ?_)
            refine q_iconst rfl rfl ?_
            refine q_goto rfl ?_
            refine q_iast rfl rfl (by decide) (FW_62 S hW) (by decide) ?_
            refine q_iload_n rfl rfl rfl ?_
            refine q_ifne rfl rfl (fun c419 => ?_) (fun c419 => absurd (by decide) c419)
            refine q_aload_n rfl rfl rfl ?_
            refine q_iconst rfl rfl ?_
            refine q_putf rfl rfl (by decide) rfl (by decide) rfl rfl ?_
            refine q_aload_n rfl rfl rfl ?_
            refine q_getf rfl rfl (by decide) rfl rfl ?_
            refine q_iload_n rfl rfl rfl ?_
            refine q_aload_n rfl rfl rfl ?_
            refine q_getf rfl rfl (by decide) rfl rfl ?_
            refine q_iload_n rfl rfl rfl ?_
            refine q_iald rfl rfl (by decide) rfl (by decide) (q_tn (z := 1) rfl ?_)
            refine q_iast rfl rfl (by decide) (FW_63 S hW) (by decide) ?_
            refine q_iconst rfl rfl ?_
            refine q_ist3n rfl rfl rfl rfl ?_
            refine q_iload_n rfl rfl rfl ?_
            refine q_iconst rfl rfl ?_
            refine q_icge rfl rfl (fun c420 => absurd c420 (by decide)) (fun c420 => ?_)
            refine q_aload_n rfl rfl rfl ?_
            refine q_getf rfl rfl (by decide) rfl rfl ?_
            refine q_iconst rfl rfl ?_
            refine q_iload_n rfl rfl rfl ?_
            refine q_imul rfl rfl (q_tn (z := 0) rfl ?_)
            refine q_iload_n rfl rfl rfl ?_
            refine q_iadd rfl rfl (q_tn (z := 0) rfl ?_)
            refine q_iconst rfl rfl ?_
            refine q_iast rfl rfl (by decide) (FW_64 S hW) (by decide) ?_
            refine q_icc3 (z := 1) rfl rfl rfl rfl rfl ?_
            refine q_goto rfl ?_
            refine q_iload_n rfl rfl rfl ?_
            refine q_iconst rfl rfl ?_
            refine q_icge rfl rfl (fun c421 => absurd c421 (by decide)) (fun c421 => ?_)
            refine q_aload_n rfl rfl rfl ?_
            refine q_getf rfl rfl (by decide) rfl rfl ?_
            refine q_iconst rfl rfl ?_
            refine q_iload_n rfl rfl rfl ?_
            refine q_imul rfl rfl (q_tn (z := 0) rfl ?_)
            refine q_iload_n rfl rfl rfl ?_
            refine q_iadd rfl rfl (q_tn (z := 1) rfl ?_)
            refine q_iconst rfl rfl ?_
            refine q_iast rfl rfl (by decide) rfl (by decide) ?_
            refine q_icc3 (z := 2) rfl rfl rfl rfl rfl ?_
            refine q_goto rfl ?_
            refine q_iload_n rfl rfl rfl ?_
            refine q_iconst rfl rfl ?_
            refine q_icge rfl rfl (fun c422 => absurd c422 (by decide)) (fun c422 => ?_)
            refine q_aload_n rfl rfl rfl ?_
            refine q_getf rfl rfl (by decide) rfl rfl ?_
            refine q_iconst rfl rfl ?_
            refine q_iload_n rfl rfl rfl ?_
            refine q_imul rfl rfl (q_tn (z := 0) rfl ?_)
            refine q_iload_n rfl rfl rfl ?_
            refine q_iadd rfl rfl (q_tn (z := 2) rfl ?_)
            refine q_iconst rfl rfl ?_
            refine q_iast rfl rfl (by decide) rfl (by decide) ?_
            refine q_icc3 (z := 3) rfl rfl rfl rfl rfl ?_
            refine q_goto rfl ?_
            refine q_iload_n rfl rfl rfl ?_
            refine q_iconst rfl rfl ?_
            refine q_icge rfl rfl (fun c423 => absurd c423 (by decide)) (fun c423 => ?_)
            refine q_aload_n rfl rfl rfl ?_
            refine q_getf rfl rfl (by decide) rfl rfl ?_
            refine q_iconst rfl rfl ?_
            refine q_iload_n rfl rfl rfl ?_
            refine q_imul rfl rfl (q_tn (z := 0) rfl ?_)
            refine q_iload_n rfl rfl rfl ?_
            refine q_iadd rfl rfl (q_tn (z := 3) rfl ?_)
            refine q_iconst rfl rfl ?_
            refine q_iast rfl rfl (by decide) rfl (by decide) ?_
            refine q_icc3 (z := 4) rfl rfl rfl rfl rfl ?_
            refine q_goto rfl ?_
            refine q_iload_n rfl rfl rfl ?_
            refine q_iconst rfl rfl ?_
            refine q_icge rfl rfl (fun c424 => ?_) (fun c424 => absurd (by decide) c424)
            refine q_iconst rfl rfl ?_
            refine q_ist3n rfl rfl rfl rfl ?_
            refine q_iload_n rfl rfl rfl ?_
            refine q_aload_n rfl rfl rfl ?_
            refine q_getf rfl rfl (by decide) rfl rfl ?_
            refine q_iload_n rfl rfl rfl ?_
            refine q_iald rfl rfl (by decide) rfl (by decide) (q_tn (z := 1) rfl ?_)
            refine q_icge rfl rfl (fun c425 => absurd c425 (by decide)) (fun c425 => ?_)
            refine q_aload_n rfl rfl rfl ?_
            refine q_iload_n rfl rfl rfl ?_
            refine q_iload_n rfl rfl rfl ?_
            refine q_cV2v rfl rfl (Or.inl rfl) rfl rfl rfl (by decide) rfl ⟨rfl, rfl⟩ rfl (fun K' hK' => l_sa (R := 0) (by decide) rfl (by decide) rfl rfl rfl rfl rfl hK') ?_
            refine q_aload_n rfl rfl rfl ?_
            refine q_nV0 rfl rfl (Or.inl rfl) rfl rfl rfl (by decide) rfl ⟨rfl, rfl⟩ rfl ?_
            change PQ _ _ _ mm_X12_isEnd 0 [.ref 46, pm_un, pm_un] [] _ _ 0 0 _
            refine q_iconst rfl rfl ?_
            refine q_ist1n rfl rfl rfl rfl ?_
            refine q_iconst rfl rfl ?_
            refine q_ist2n rfl rfl rfl rfl ?_
            refine q_iload_n rfl rfl rfl ?_
            refine q_aload_n rfl rfl rfl ?_
            refine q_getf rfl rfl (by decide) rfl rfl ?_
            refine q_icge rfl rfl (fun c426 => absurd c426 (by decide)) (fun c426 => ?_)
            refine q_iload_n rfl rfl rfl ?_
            refine q_ifeq rfl rfl (fun c427 => absurd c427 (by decide)) (fun c427 => ?_)
            refine q_aload_n rfl rfl rfl ?_
            refine q_iload_n rfl rfl rfl ?_
            refine q_nV1 rfl rfl (Or.inl rfl) rfl rfl rfl (by decide) rfl ⟨rfl, rfl⟩ rfl ?_
            change PQ _ _ _ mm_X12_isOver 0 [.ref 46, .int 0] [] _ _ 0 0 _
            refine q_aload_n rfl rfl rfl ?_
            refine q_getf rfl rfl (by decide) rfl rfl ?_
            refine q_iconst rfl rfl ?_
            refine q_iload_n rfl rfl rfl ?_
            refine q_imul rfl rfl (q_tn (z := 0) rfl ?_)
            refine q_iald rfl rfl (by decide) rfl (by decide) (q_tn (z := 10) rfl ?_)
            refine q_bipush rfl rfl ?_
            refine q_iclt rfl rfl (fun c428 => absurd c428 (by decide)) (fun c428 => ?_)
            refine q_iconst rfl rfl ?_
            refine q_goto rfl ?_
            refine q_iret rfl rfl rfl ?_
            refine ⟨_, rfl, ?_⟩
            refine q_ifeq rfl rfl (fun c429 => absurd c429 (by decide)) (fun c429 => ?_)
            refine q_iconst rfl rfl ?_
            refine q_goto rfl ?_
            refine q_ist1n rfl rfl rfl rfl ?_
            refine q_icc2 (z := 1) rfl rfl rfl rfl rfl ?_
            refine q_goto rfl ?_
            refine q_iload_n rfl rfl rfl ?_
            refine q_aload_n rfl rfl rfl ?_
            refine q_getf rfl rfl (by decide) rfl rfl ?_
            refine q_icge rfl rfl (fun c430 => ?_) (fun c430 => absurd (by decide) c430)
            refine q_iload_n rfl rfl rfl ?_
            refine q_iret rfl rfl rfl ?_
            refine ⟨_, rfl, ?_⟩
            refine q_ifne rfl rfl (fun c431 => absurd c431 (by decide)) (fun c431 => ?_)
            refine q_iconst rfl rfl ?_
            refine q_ist4 rfl rfl rfl rfl ?_
            refine q_iload rfl rfl rfl ?_
            refine q_iconst rfl rfl ?_
            refine q_icge rfl rfl (fun c432 => absurd c432 (by decide)) (fun c432 => ?_)
            refine q_aload_n rfl rfl rfl ?_
            refine q_getf rfl rfl (by decide) rfl rfl ?_
            refine q_iconst rfl rfl ?_
            refine q_iload_n rfl rfl rfl ?_
            refine q_imul rfl rfl (q_tn (z := 0) rfl ?_)
            refine q_iload rfl rfl rfl ?_
            refine q_iadd rfl rfl (q_tn (z := 0) rfl ?_)
            refine q_dup2 rfl rfl ?_
            refine q_iald rfl rfl (by decide) rfl (by decide) (q_tn (z := 0) rfl ?_)
            refine q_iconst rfl rfl ?_
            refine q_aload_n rfl rfl rfl ?_
            refine q_getf rfl rfl (by decide) rfl rfl ?_
            refine q_bipush rfl rfl ?_
            refine q_iload rfl rfl rfl ?_
            refine q_iadd rfl rfl (q_tn (z := 12) rfl ?_)
            refine q_iald rfl rfl (by decide) rfl (by decide) (q_tn (z := 0) rfl ?_)
            refine q_ishl rfl rfl (q_tn (z := 1) rfl ?_)
            refine q_ior rfl rfl (q_tn (z := 1) rfl ?_)
            refine q_iast rfl rfl (by decide) rfl (by decide) ?_
            refine q_icc4 (z := 1) rfl rfl rfl rfl rfl ?_
            refine q_goto rfl ?_
            refine q_iload rfl rfl rfl ?_
            refine q_iconst rfl rfl ?_
            refine q_icge rfl rfl (fun c433 => absurd c433 (by decide)) (fun c433 => ?_)
            refine q_aload_n rfl rfl rfl ?_
            refine q_getf rfl rfl (by decide) rfl rfl ?_
            refine q_iconst rfl rfl ?_
            refine q_iload_n rfl rfl rfl ?_
            refine q_imul rfl rfl (q_tn (z := 0) rfl ?_)
            refine q_iload rfl rfl rfl ?_
            refine q_iadd rfl rfl (q_tn (z := 1) rfl ?_)
            refine q_dup2 rfl rfl ?_
            refine q_iald rfl rfl (by decide) rfl (by decide) (q_tn (z := 0) rfl ?_)
            refine q_iconst rfl rfl ?_
            refine q_aload_n rfl rfl rfl ?_
            refine q_getf rfl rfl (by decide) rfl rfl ?_
            refine q_bipush rfl rfl ?_
            refine q_iload rfl rfl rfl ?_
            refine q_iadd rfl rfl (q_tn (z := 13) rfl ?_)
            refine q_iald rfl rfl (by decide) rfl (by decide) (q_tn (z := 0) rfl ?_)
            refine q_ishl rfl rfl (q_tn (z := 1) rfl ?_)
            refine q_ior rfl rfl (q_tn (z := 1) rfl ?_)
            refine q_iast rfl rfl (by decide) rfl (by decide) ?_
            refine q_icc4 (z := 2) rfl rfl rfl rfl rfl ?_
            refine q_goto rfl ?_
            refine q_iload rfl rfl rfl ?_
            refine q_iconst rfl rfl ?_
            refine q_icge rfl rfl (fun c434 => absurd c434 (by decide)) (fun c434 => ?_)
            refine q_aload_n rfl rfl rfl ?_
            refine q_getf rfl rfl (by decide) rfl rfl ?_
            refine q_iconst rfl rfl ?_
            refine q_iload_n rfl rfl rfl ?_
            refine q_imul rfl rfl (q_tn (z := 0) rfl ?_)
            refine q_iload rfl rfl rfl ?_
            refine q_iadd rfl rfl (q_tn (z := 2) rfl ?_)
            refine q_dup2 rfl rfl ?_
            refine q_iald rfl rfl (by decide) rfl (by decide) (q_tn (z := 0) rfl ?_)
            refine q_iconst rfl rfl ?_
            refine q_aload_n rfl rfl rfl ?_
            refine q_getf rfl rfl (by decide) rfl rfl ?_
            refine q_bipush rfl rfl ?_
            refine q_iload rfl rfl rfl ?_
            refine q_iadd rfl rfl (q_tn (z := 14) rfl ?_)
            refine q_iald rfl rfl (by decide) rfl (by decide) (q_tn (z := 0) rfl ?_)
            refine q_ishl rfl rfl (q_tn (z := 1) rfl ?_)
            refine q_ior rfl rfl (q_tn (z := 1) rfl ?_)
            refine q_iast rfl rfl (by decide) rfl (by decide) ?_
            refine q_icc4 (z := 3) rfl rfl rfl rfl rfl ?_
            refine q_goto rfl ?_
            refine q_iload rfl rfl rfl ?_
            refine q_iconst rfl rfl ?_
            refine q_icge rfl rfl (fun c435 => absurd c435 (by decide)) (fun c435 => ?_)
            refine q_aload_n rfl rfl rfl ?_
            refine q_getf rfl rfl (by decide) rfl rfl ?_
            refine q_iconst rfl rfl ?_
            refine q_iload_n rfl rfl rfl ?_
            refine q_imul rfl rfl (q_tn (z := 0) rfl ?_)
            refine q_iload rfl rfl rfl ?_
            refine q_iadd rfl rfl (q_tn (z := 3) rfl ?_)
            refine q_dup2 rfl rfl ?_
            refine q_iald rfl rfl (by decide) rfl (by decide) (q_tn (z := 0) rfl ?_)
            refine q_iconst rfl rfl ?_
            refine q_aload_n rfl rfl rfl ?_
            refine q_getf rfl rfl (by decide) rfl rfl ?_
            refine q_bipush rfl rfl ?_
            refine q_iload rfl rfl rfl ?_
            refine q_iadd rfl rfl (q_tn (z := 15) rfl ?_)
            refine q_iald rfl rfl (by decide) rfl (by decide) (q_tn (z := 0) rfl ?_)
            refine q_ishl rfl rfl (q_tn (z := 1) rfl ?_)
            refine q_ior rfl rfl (q_tn (z := 1) rfl ?_)
            refine q_iast rfl rfl (by decide) rfl (by decide) ?_
            refine q_icc4 (z := 4) rfl rfl rfl rfl rfl ?_
            refine q_goto rfl ?_
            refine q_iload rfl rfl rfl ?_
            refine q_iconst rfl rfl ?_
            refine q_icge rfl rfl (fun c436 => ?_) (fun c436 => absurd (by decide) c436)
            refine q_icc3 (z := 1) rfl rfl rfl rfl rfl ?_
            refine q_goto rfl ?_
            refine q_iload_n rfl rfl rfl ?_
            refine q_aload_n rfl rfl rfl ?_
            refine q_getf rfl rfl (by decide) rfl rfl ?_
            refine q_iload_n rfl rfl rfl ?_
            refine q_iald rfl rfl (by decide) rfl (by decide) (q_tn (z := 1) rfl ?_)
            refine q_icge rfl rfl (fun c437 => ?_) (fun c437 => absurd (by decide) c437)
            refine q_aload_n rfl rfl rfl ?_
            refine q_getf rfl rfl (by decide) rfl rfl ?_
            refine q_iload_n rfl rfl rfl ?_
            refine q_iald rfl rfl (by decide) rfl (by decide) (q_tn (z := 1) rfl ?_)
            refine q_iconst rfl rfl ?_
            refine q_icne rfl rfl (fun c438 => absurd c438 (by decide)) (fun c438 => ?_)
            refine q_iconst rfl rfl ?_
            refine q_iret rfl rfl rfl ?_
            refine ⟨_, rfl, ?_⟩
            refine q_ifeq rfl rfl (fun c439 => ?_) (fun c439 => absurd (by decide) c439)
            refine q_iload_n rfl rfl rfl ?_
            refine q_iconst rfl rfl ?_
            refine q_icne rfl rfl (fun c440 => absurd c440 (by decide)) (fun c440 => ?_)
            refine q_iconst rfl rfl ?_
            refine q_ist2n rfl rfl rfl rfl ?_
            refine q_iconst rfl rfl ?_
            refine q_ist3n rfl rfl rfl rfl ?_
            refine q_iload_n rfl rfl rfl ?_
            refine q_aload_n rfl rfl rfl ?_
            refine q_getf rfl rfl (by decide) rfl rfl ?_
            refine q_iconst rfl rfl ?_
            refine q_iald rfl rfl (by decide) rfl (by decide) (q_tn (z := 1) rfl ?_)
            refine q_icge rfl rfl (fun c441 => absurd c441 (by decide)) (fun c441 => ?_)
            refine q_iload_n rfl rfl rfl ?_
            refine q_aload_n rfl rfl rfl ?_
            refine q_iload_n rfl rfl rfl ?_
            refine q_iload_n rfl rfl rfl ?_
            refine q_nV2 rfl rfl (Or.inl rfl) rfl rfl rfl (by decide) rfl ⟨rfl, rfl⟩ rfl ?_
            change PQ _ _ _ mm_X12_isSuch 0 [.ref 46, .int 0, .int 0] [] _ _ 0 0 _
            refine q_iload_n rfl rfl rfl ?_
            refine q_iconst rfl rfl ?_
            refine q_icne rfl rfl (fun c442 => absurd c442 (by decide)) (fun c442 => ?_)
            refine q_iload_n rfl rfl rfl ?_
            refine q_iconst rfl rfl ?_
            refine q_icne rfl rfl (fun c443 => absurd c443 (by decide)) (fun c443 => ?_)
            refine q_aload_n rfl rfl rfl ?_
            refine q_iconst rfl rfl ?_
            refine q_iload_n rfl rfl rfl ?_
            refine q_cV2v rfl rfl (Or.inl rfl) rfl rfl rfl (by decide) rfl ⟨rfl, rfl⟩ rfl (fun K' hK' => l_sa (R := 0) (by decide) rfl (by decide) rfl rfl rfl rfl rfl hK') ?_
            refine q_aload_n rfl rfl rfl ?_
            refine q_nV0 rfl rfl (Or.inl rfl) rfl rfl rfl (by decide) rfl ⟨rfl, rfl⟩ rfl ?_
            change PQ _ _ _ mm_X12_isEnd 0 [.ref 46, pm_un, pm_un] [] _ _ 0 0 _
            refine q_iconst rfl rfl ?_
            refine q_ist1n rfl rfl rfl rfl ?_
            refine q_iconst rfl rfl ?_
            refine q_ist2n rfl rfl rfl rfl ?_
            refine q_iload_n rfl rfl rfl ?_
            refine q_aload_n rfl rfl rfl ?_
            refine q_getf rfl rfl (by decide) rfl rfl ?_
            refine q_icge rfl rfl (fun c444 => absurd c444 (by decide)) (fun c444 => ?_)
            refine q_iload_n rfl rfl rfl ?_
            refine q_ifeq rfl rfl (fun c445 => absurd c445 (by decide)) (fun c445 => ?_)
            refine q_aload_n rfl rfl rfl ?_
            refine q_iload_n rfl rfl rfl ?_
            refine q_nV1 rfl rfl (Or.inl rfl) rfl rfl rfl (by decide) rfl ⟨rfl, rfl⟩ rfl ?_
            change PQ _ _ _ mm_X12_isOver 0 [.ref 46, .int 0] [] _ _ 0 0 _
            refine q_aload_n rfl rfl rfl ?_
            refine q_getf rfl rfl (by decide) rfl rfl ?_
            refine q_iconst rfl rfl ?_
            refine q_iload_n rfl rfl rfl ?_
            refine q_imul rfl rfl (q_tn (z := 0) rfl ?_)
            refine q_iald rfl rfl (by decide) rfl (by decide) (q_tn (z := 10) rfl ?_)
            refine q_bipush rfl rfl ?_
            refine q_iclt rfl rfl (fun c446 => absurd c446 (by decide)) (fun c446 => ?_)
            refine q_iconst rfl rfl ?_
            refine q_goto rfl ?_
            refine q_iret rfl rfl rfl ?_
            refine ⟨_, rfl, ?_⟩
            refine q_ifeq rfl rfl (fun c447 => absurd c447 (by decide)) (fun c447 => ?_)
            refine q_iconst rfl rfl ?_
            refine q_goto rfl ?_
            refine q_ist1n rfl rfl rfl rfl ?_
            refine q_icc2 (z := 1) rfl rfl rfl rfl rfl ?_
            refine q_goto rfl ?_
            refine q_iload_n rfl rfl rfl ?_
            refine q_aload_n rfl rfl rfl ?_
            refine q_getf rfl rfl (by decide) rfl rfl ?_
            refine q_icge rfl rfl (fun c448 => ?_) (fun c448 => absurd (by decide) c448)
            refine q_iload_n rfl rfl rfl ?_
            refine q_iret rfl rfl rfl ?_
            refine ⟨_, rfl, ?_⟩
            refine q_iret rfl rfl rfl ?_
            refine ⟨_, rfl, ?_⟩
            refine q_ifeq rfl rfl (fun c449 => absurd c449 (by decide)) (fun c449 => ?_)
            refine q_iconst rfl rfl ?_
            refine q_goto rfl ?_
            refine q_iadd rfl rfl (q_tn (z := 1) rfl ?_)
            refine q_ist2n rfl rfl rfl rfl ?_
            refine q_icc3 (z := 1) rfl rfl rfl rfl rfl ?_
            refine q_goto rfl ?_
            refine q_iload_n rfl rfl rfl ?_
            refine q_aload_n rfl rfl rfl ?_
            refine q_getf rfl rfl (by decide) rfl rfl ?_
            refine q_iconst rfl rfl ?_
            refine q_iald rfl rfl (by decide) rfl (by decide) (q_tn (z := 1) rfl ?_)
            refine q_icge rfl rfl (fun c450 => ?_) (fun c450 => absurd (by decide) c450)
            refine q_iload_n rfl rfl rfl ?_
            refine q_iret rfl rfl trivial ?_
            refine ⟨_, rfl, ?_⟩
            refine q_iceq rfl rfl (fun c451 => ?_) (fun c451 => absurd (by decide) c451)
            refine q_icc4 (z := 6) rfl rfl rfl rfl rfl ?_
            refine q_goto rfl ?_
            refine q_iload rfl rfl rfl ?_
            refine q_aload_nF rfl rfl rfl ?_
            refine q_alenX (x := 6) rfl rfl rfl ?_
            refine q_bipush rfl rfl ?_
            refine q_isub rfl rfl (q_tn (z := 0) rfl ?_)
            refine q_icgt rfl rfl (fun c452 => ?_) (fun c452 => absurd (by decide) c452)
            refine q_iconst rfl rfl ?_
            refine q_iret rfl rfl rfl ?_
            exact hK _ _
        · have e452 : x1 = 1 := Int32.le_antisymm (i_ltle (i_nle (fun q => c82 (Int32.le_antisymm (i_ltle (i_nle c7) (B := 2) rfl) q))) (B := 1) rfl) (i_ltge (i_nle (fun q => c302 (Int32.le_antisymm q (i_nlt c1)))) (B := 1) rfl)
          subst e452
          refine q_iconst rfl rfl ?_
          refine q_icne rfl rfl (fun c453 => absurd c453 (by decide)) (fun c453 => ?_)
          refine q_iconst rfl rfl ?_
          refine q_iret rfl rfl rfl ?_
          refine ⟨_, rfl, ?_⟩
          refine q_ifeq rfl rfl (fun c454 => ?_) (fun c454 => absurd (by decide) c454)
          refine q_icc3 (z := 1) rfl rfl rfl rfl rfl ?_
          refine q_goto rfl ?_
          refine q_iload_n rfl rfl rfl ?_
          refine q_aload_n rfl rfl rfl ?_
          refine q_getf rfl rfl (by decide) (FW_0 S hW) rfl ?_
          refine q_getf rfl rfl (by decide) rfl rfl ?_
          refine q_icge rfl rfl (fun c455 => ?_) (fun c455 => absurd (by decide) c455)
          refine q_iload_n rfl rfl rfl ?_
          refine q_iret rfl rfl trivial ?_
          refine ⟨_, rfl, ?_⟩
          refine q_aload_n rfl rfl rfl ?_
          refine q_aload_nF rfl rfl rfl ?_
          refine q_iload rfl rfl rfl ?_
          refine q_iconst rfl rfl ?_
          refine q_iadd rfl rfl (q_tn (z := 1) rfl ?_)
          refine q_ialdX (x := 1) rfl rfl rfl hx1 ?_
          refine q_nV1 rfl rfl (Or.inl rfl) rfl rfl rfl (by decide) (FW_46 S hW) ⟨rfl, rfl⟩ rfl ?_
          change PQ _ _ _ mm_X12_count 0 [.ref 46, .int 1, pm_un, pm_un] [] _ _ 0 0 _
          refine q_aload_n rfl rfl rfl ?_
          refine q_iload_n rfl rfl rfl ?_
          refine q_iconst rfl rfl ?_
          refine q_iconst rfl rfl ?_
          refine q_nV3 rfl rfl (Or.inl rfl) rfl rfl rfl (by decide) (FW_46 S hW) ⟨rfl, rfl⟩ rfl ?_
          change PQ _ _ _ mm_X12_in 0 [.ref 46, .int 1, .int 0, .int 2] [] _ _ 0 0 _
          refine q_iload_n rfl rfl rfl ?_
          refine q_iload_n rfl rfl rfl ?_
          refine q_iclt rfl rfl (fun c456 => absurd c456 (by decide)) (fun c456 => ?_)
          refine q_iload_n rfl rfl rfl ?_
          refine q_iload_n rfl rfl rfl ?_
          refine q_icgt rfl rfl (fun c457 => absurd c457 (by decide)) (fun c457 => ?_)
          refine q_iconst rfl rfl ?_
          refine q_goto rfl ?_
          refine q_iret rfl rfl rfl ?_
          refine ⟨_, rfl, ?_⟩
          refine q_ifne rfl rfl (fun c458 => absurd c458 (by decide)) (fun c458 => ?_)
          refine q_aload_n rfl rfl rfl ?_
          refine q_iconst rfl rfl ?_
          refine q_nV1 rfl rfl (Or.inl rfl) rfl rfl rfl (by decide) (FW_46 S hW) ⟨rfl, rfl⟩ rfl ?_
          change PQ _ _ _ mm_X12_isSpent 0 [.ref 46, .int 0, pm_un, pm_un, pm_un] [] _ _ 0 0 _
          refine q_iload_n rfl rfl rfl ?_
          refine q_ifne rfl rfl (fun c459 => ?_) (fun c459 => absurd (by decide) c459)
          refine q_iconst rfl rfl ?_
          refine q_goto rfl ?_
          refine q_ist2n rfl rfl rfl rfl ?_
          refine q_aload_n rfl rfl rfl ?_
          refine q_iconst rfl rfl ?_
          refine q_putf rfl rfl (by decide) (FW_46 S hW) (by decide) rfl trivial ?_
          refine q_aload_n rfl rfl rfl ?_
          refine q_getf rfl rfl (by decide) rfl rfl ?_
          refine q_iload_n rfl rfl rfl ?_
          refine q_iald rfl rfl (by decide) (FW_62 S hW) (by decide) (q_tn (z := 0) rfl ?_)
          refine q_ifeq rfl rfl (fun c460 => ?_) (fun c460 => absurd (by decide) c460)
          refine q_aload_n rfl rfl rfl ?_
          refine q_getf rfl rfl (by decide) rfl rfl ?_
          refine q_iload_n rfl rfl rfl ?_
          refine q_aload_n rfl rfl rfl ?_
          refine q_iload_n rfl rfl rfl ?_
          refine q_iload_n rfl rfl rfl ?_
          refine q_nV2 rfl rfl (Or.inl rfl) rfl rfl rfl (by decide) rfl ⟨rfl, rfl⟩ rfl ?_
          change PQ _ _ _ mm_X12_explore 0 [.ref 46, .int 0, .int 0, pm_un, pm_un, pm_un, pm_un, pm_un] [] _ _ 0 0 _
          refine q_iconst rfl rfl ?_
          refine q_ist3n rfl rfl rfl rfl ?_
          refine l_net (R := 0) (by decide) rfl (by decide) rfl rfl (FW_61 S hW) ?_
          refine q_aload_n rfl rfl rfl ?_
          refine q_getf rfl rfl (by decide) rfl rfl ?_
          refine q_iload_n rfl rfl rfl ?_
          refine q_iconst rfl rfl ?_
          refine q_iast rfl rfl (by decide) (FW_60 S hW) (by decide) ?_
          refine q_aload_n rfl rfl rfl ?_
          refine q_nV0v rfl rfl (Or.inl rfl) rfl rfl rfl (by decide) rfl ⟨rfl, rfl⟩ rfl ?_
          change PQ _ _ _ mm_X12_firstState 0 [.ref 46, pm_un] [] _ _ 0 0 _
          refine q_iconst rfl rfl ?_
          refine q_ist1n rfl rfl rfl rfl ?_
          refine q_iload_n rfl rfl rfl ?_
          refine q_bipush rfl rfl ?_
          refine q_icge rfl rfl (fun c461 => absurd c461 (by decide)) (fun c461 => ?_)
          refine q_aload_n rfl rfl rfl ?_
          refine q_getf rfl rfl (by decide) rfl rfl ?_
          refine q_iload_n rfl rfl rfl ?_
          refine q_iconst rfl rfl ?_
          refine q_iast rfl rfl (by decide) (FW_52 S hW) (by decide) ?_
          refine q_icc1 (z := 1) rfl rfl rfl rfl rfl ?_
          refine q_goto rfl ?_
          refine q_iload_n rfl rfl rfl ?_
          refine q_bipush rfl rfl ?_
          refine q_icge rfl rfl (fun c462 => absurd c462 (by decide)) (fun c462 => ?_)
          refine q_aload_n rfl rfl rfl ?_
          refine q_getf rfl rfl (by decide) rfl rfl ?_
          refine q_iload_n rfl rfl rfl ?_
          refine q_iconst rfl rfl ?_
          refine q_iast rfl rfl (by decide) rfl (by decide) ?_
          refine q_icc1 (z := 2) rfl rfl rfl rfl rfl ?_
          refine q_goto rfl ?_
          refine q_iload_n rfl rfl rfl ?_
          refine q_bipush rfl rfl ?_
          refine q_icge rfl rfl (fun c463 => absurd c463 (by decide)) (fun c463 => ?_)
          refine q_aload_n rfl rfl rfl ?_
          refine q_getf rfl rfl (by decide) rfl rfl ?_
          refine q_iload_n rfl rfl rfl ?_
          refine q_iconst rfl rfl ?_
          refine q_iast rfl rfl (by decide) rfl (by decide) ?_
          refine q_icc1 (z := 3) rfl rfl rfl rfl rfl ?_
          refine q_goto rfl ?_
          refine q_iload_n rfl rfl rfl ?_
          refine q_bipush rfl rfl ?_
          refine q_icge rfl rfl (fun c464 => absurd c464 (by decide)) (fun c464 => ?_)
          refine q_aload_n rfl rfl rfl ?_
          refine q_getf rfl rfl (by decide) rfl rfl ?_
          refine q_iload_n rfl rfl rfl ?_
          refine q_iconst rfl rfl ?_
          refine q_iast rfl rfl (by decide) rfl (by decide) ?_
          refine q_icc1 (z := 4) rfl rfl rfl rfl rfl ?_
          refine q_goto rfl ?_
          refine q_iload_n rfl rfl rfl ?_
          refine q_bipush rfl rfl ?_
          refine q_icge rfl rfl (fun c465 => absurd c465 (by decide)) (fun c465 => ?_)
          refine q_aload_n rfl rfl rfl ?_
          refine q_getf rfl rfl (by decide) rfl rfl ?_
          refine q_iload_n rfl rfl rfl ?_
          refine q_iconst rfl rfl ?_
          refine q_iast rfl rfl (by decide) rfl (by decide) ?_
          refine q_icc1 (z := 5) rfl rfl rfl rfl rfl ?_
          refine q_goto rfl ?_
          refine q_iload_n rfl rfl rfl ?_
          refine q_bipush rfl rfl ?_
          refine q_icge rfl rfl (fun c466 => absurd c466 (by decide)) (fun c466 => ?_)
          refine q_aload_n rfl rfl rfl ?_
          refine q_getf rfl rfl (by decide) rfl rfl ?_
          refine q_iload_n rfl rfl rfl ?_
          refine q_iconst rfl rfl ?_
          refine q_iast rfl rfl (by decide) rfl (by decide) ?_
          refine q_icc1 (z := 6) rfl rfl rfl rfl rfl ?_
          refine q_goto rfl ?_
          refine q_iload_n rfl rfl rfl ?_
          refine q_bipush rfl rfl ?_
          refine q_icge rfl rfl (fun c467 => absurd c467 (by decide)) (fun c467 => ?_)
          refine q_aload_n rfl rfl rfl ?_
          refine q_getf rfl rfl (by decide) rfl rfl ?_
          refine q_iload_n rfl rfl rfl ?_
          refine q_iconst rfl rfl ?_
          refine q_iast rfl rfl (by decide) rfl (by decide) ?_
          refine q_icc1 (z := 7) rfl rfl rfl rfl rfl ?_
          refine q_goto rfl ?_
          refine q_iload_n rfl rfl rfl ?_
          refine q_bipush rfl rfl ?_
          refine q_icge rfl rfl (fun c468 => absurd c468 (by decide)) (fun c468 => ?_)
          refine q_aload_n rfl rfl rfl ?_
          refine q_getf rfl rfl (by decide) rfl rfl ?_
          refine q_iload_n rfl rfl rfl ?_
          refine q_iconst rfl rfl ?_
          refine q_iast rfl rfl (by decide) rfl (by decide) ?_
          refine q_icc1 (z := 8) rfl rfl rfl rfl rfl ?_
          refine q_goto rfl ?_
          refine q_iload_n rfl rfl rfl ?_
          refine q_bipush rfl rfl ?_
          refine q_icge rfl rfl (fun c469 => absurd c469 (by decide)) (fun c469 => ?_)
          refine q_aload_n rfl rfl rfl ?_
          refine q_getf rfl rfl (by decide) rfl rfl ?_
          refine q_iload_n rfl rfl rfl ?_
          refine q_iconst rfl rfl ?_
          refine q_iast rfl rfl (by decide) rfl (by decide) ?_
          refine q_icc1 (z := 9) rfl rfl rfl rfl rfl ?_
          refine q_goto rfl ?_
          refine q_iload_n rfl rfl rfl ?_
          refine q_bipush rfl rfl ?_
          refine q_icge rfl rfl (fun c470 => absurd c470 (by decide)) (fun c470 => ?_)
          refine q_aload_n rfl rfl rfl ?_
          refine q_getf rfl rfl (by decide) rfl rfl ?_
          refine q_iload_n rfl rfl rfl ?_
          refine q_iconst rfl rfl ?_
          refine q_iast rfl rfl (by decide) rfl (by decide) ?_
          refine q_icc1 (z := 10) rfl rfl rfl rfl rfl ?_
          refine q_goto rfl ?_
          refine q_iload_n rfl rfl rfl ?_
          refine q_bipush rfl rfl ?_
          refine q_icge rfl rfl (fun c471 => absurd c471 (by decide)) (fun c471 => ?_)
          refine q_aload_n rfl rfl rfl ?_
          refine q_getf rfl rfl (by decide) rfl rfl ?_
          refine q_iload_n rfl rfl rfl ?_
          refine q_iconst rfl rfl ?_
          refine q_iast rfl rfl (by decide) rfl (by decide) ?_
          refine q_icc1 (z := 11) rfl rfl rfl rfl rfl ?_
          refine q_goto rfl ?_
          refine q_iload_n rfl rfl rfl ?_
          refine q_bipush rfl rfl ?_
          refine q_icge rfl rfl (fun c472 => absurd c472 (by decide)) (fun c472 => ?_)
          refine q_aload_n rfl rfl rfl ?_
          refine q_getf rfl rfl (by decide) rfl rfl ?_
          refine q_iload_n rfl rfl rfl ?_
          refine q_iconst rfl rfl ?_
          refine q_iast rfl rfl (by decide) rfl (by decide) ?_
          refine q_icc1 (z := 12) rfl rfl rfl rfl rfl ?_
          refine q_goto rfl ?_
          refine q_iload_n rfl rfl rfl ?_
          refine q_bipush rfl rfl ?_
          refine q_icge rfl rfl (fun c473 => absurd c473 (by decide)) (fun c473 => ?_)
          refine q_aload_n rfl rfl rfl ?_
          refine q_getf rfl rfl (by decide) rfl rfl ?_
          refine q_iload_n rfl rfl rfl ?_
          refine q_iconst rfl rfl ?_
          refine q_iast rfl rfl (by decide) rfl (by decide) ?_
          refine q_icc1 (z := 13) rfl rfl rfl rfl rfl ?_
          refine q_goto rfl ?_
          refine q_iload_n rfl rfl rfl ?_
          refine q_bipush rfl rfl ?_
          refine q_icge rfl rfl (fun c474 => absurd c474 (by decide)) (fun c474 => ?_)
          refine q_aload_n rfl rfl rfl ?_
          refine q_getf rfl rfl (by decide) rfl rfl ?_
          refine q_iload_n rfl rfl rfl ?_
          refine q_iconst rfl rfl ?_
          refine q_iast rfl rfl (by decide) rfl (by decide) ?_
          refine q_icc1 (z := 14) rfl rfl rfl rfl rfl ?_
          refine q_goto rfl ?_
          refine q_iload_n rfl rfl rfl ?_
          refine q_bipush rfl rfl ?_
          refine q_icge rfl rfl (fun c475 => absurd c475 (by decide)) (fun c475 => ?_)
          refine q_aload_n rfl rfl rfl ?_
          refine q_getf rfl rfl (by decide) rfl rfl ?_
          refine q_iload_n rfl rfl rfl ?_
          refine q_iconst rfl rfl ?_
          refine q_iast rfl rfl (by decide) rfl (by decide) ?_
          refine q_icc1 (z := 15) rfl rfl rfl rfl rfl ?_
          refine q_goto rfl ?_
          refine q_iload_n rfl rfl rfl ?_
          refine q_bipush rfl rfl ?_
          refine q_icge rfl rfl (fun c476 => absurd c476 (by decide)) (fun c476 => ?_)
          refine q_aload_n rfl rfl rfl ?_
          refine q_getf rfl rfl (by decide) rfl rfl ?_
          refine q_iload_n rfl rfl rfl ?_
          refine q_iconst rfl rfl ?_
          refine q_iast rfl rfl (by decide) rfl (by decide) ?_
          refine q_icc1 (z := 16) rfl rfl rfl rfl rfl ?_
          refine q_goto rfl ?_
          refine q_iload_n rfl rfl rfl ?_
          refine q_bipush rfl rfl ?_
          refine q_icge rfl rfl (fun c477 => absurd c477 (by decide)) (fun c477 => ?_)
          refine q_aload_n rfl rfl rfl ?_
          refine q_getf rfl rfl (by decide) rfl rfl ?_
          refine q_iload_n rfl rfl rfl ?_
          refine q_iconst rfl rfl ?_
          refine q_iast rfl rfl (by decide) rfl (by decide) ?_
          refine q_icc1 (z := 17) rfl rfl rfl rfl rfl ?_
          refine q_goto rfl ?_
          refine q_iload_n rfl rfl rfl ?_
          refine q_bipush rfl rfl ?_
          refine q_icge rfl rfl (fun c478 => absurd c478 (by decide)) (fun c478 => ?_)
          refine q_aload_n rfl rfl rfl ?_
          refine q_getf rfl rfl (by decide) rfl rfl ?_
          refine q_iload_n rfl rfl rfl ?_
          refine q_iconst rfl rfl ?_
          refine q_iast rfl rfl (by decide) rfl (by decide) ?_
          refine q_icc1 (z := 18) rfl rfl rfl rfl rfl ?_
          refine q_goto rfl ?_
          refine q_iload_n rfl rfl rfl ?_
          refine q_bipush rfl rfl ?_
          refine q_icge rfl rfl (fun c479 => absurd c479 (by decide)) (fun c479 => ?_)
          refine q_aload_n rfl rfl rfl ?_
          refine q_getf rfl rfl (by decide) rfl rfl ?_
          refine q_iload_n rfl rfl rfl ?_
          refine q_iconst rfl rfl ?_
          refine q_iast rfl rfl (by decide) rfl (by decide) ?_
          refine q_icc1 (z := 19) rfl rfl rfl rfl rfl ?_
          refine q_goto rfl ?_
          refine q_iload_n rfl rfl rfl ?_
          refine q_bipush rfl rfl ?_
          refine q_icge rfl rfl (fun c480 => absurd c480 (by decide)) (fun c480 => ?_)
          refine q_aload_n rfl rfl rfl ?_
          refine q_getf rfl rfl (by decide) rfl rfl ?_
          refine q_iload_n rfl rfl rfl ?_
          refine q_iconst rfl rfl ?_
          refine q_iast rfl rfl (by decide) rfl (by decide) ?_
          refine q_icc1 (z := 20) rfl rfl rfl rfl rfl ?_
          refine q_goto rfl ?_
          refine q_iload_n rfl rfl rfl ?_
          refine q_bipush rfl rfl ?_
          refine q_icge rfl rfl (fun c481 => ?_) (fun c481 => absurd (by decide) c481)
          refine q_iconst rfl rfl ?_
          refine q_ist1n rfl rfl rfl rfl ?_
          refine q_iload_n rfl rfl rfl ?_
          refine q_aload_n rfl rfl rfl ?_
          refine q_getf rfl rfl (by decide) rfl rfl ?_
          refine q_icge rfl rfl (fun c482 => absurd c482 (by decide)) (fun c482 => ?_)
          refine q_aload_n rfl rfl rfl ?_
          refine q_getf rfl rfl (by decide) rfl rfl ?_
          refine q_iconst rfl rfl ?_
          refine q_iload_n rfl rfl rfl ?_
          refine q_imul rfl rfl (q_tn (z := 0) rfl ?_)
          refine q_aload_n rfl rfl rfl ?_
          refine q_getf rfl rfl (by decide) rfl rfl ?_
          refine q_aload_n rfl rfl rfl ?_
          refine q_getf rfl rfl (by decide) rfl rfl ?_
          refine q_iload_n rfl rfl rfl ?_
          refine q_iadd rfl rfl (q_tn (z := 0) rfl ?_)
          refine q_iald rfl rfl (by decide) (FW_47 S hW) (by decide) (q_tn (z := 0) rfl ?_)
          refine q_ifne rfl rfl (fun c483 => ?_) (fun c483 => absurd (by decide) c483)
          refine q_bipush rfl rfl ?_
          refine q_goto rfl ?_
          refine q_iast rfl rfl (by decide) rfl (by decide) ?_
          refine q_icc1 (z := 1) rfl rfl rfl rfl rfl ?_
          refine q_goto rfl ?_
          refine q_iload_n rfl rfl rfl ?_
          refine q_aload_n rfl rfl rfl ?_
          refine q_getf rfl rfl (by decide) rfl rfl ?_
          refine q_icge rfl rfl (fun c484 => ?_) (fun c484 => absurd (by decide) c484)
          refine q_iconst rfl rfl ?_
          refine q_ist1n rfl rfl rfl rfl ?_
          refine q_iload_n rfl rfl rfl ?_
          refine q_iconst rfl rfl ?_
          refine q_icge rfl rfl (fun c485 => absurd c485 (by decide)) (fun c485 => ?_)
          refine q_aload_n rfl rfl rfl ?_
          refine q_getf rfl rfl (by decide) rfl rfl ?_
          refine q_bipush rfl rfl ?_
          refine q_iload_n rfl rfl rfl ?_
          refine q_iadd rfl rfl (q_tn (z := 12) rfl ?_)
          refine q_aload_n rfl rfl rfl ?_
          refine q_getf rfl rfl (by decide) rfl rfl ?_
          refine q_iload_n rfl rfl rfl ?_
          refine q_iald rfl rfl (by decide) (FW_51 S hW) (by decide) (q_tn (z := 0) rfl ?_)
          refine q_iast rfl rfl (by decide) rfl (by decide) ?_
          refine q_icc1 (z := 1) rfl rfl rfl rfl rfl ?_
          refine q_goto rfl ?_
          refine q_iload_n rfl rfl rfl ?_
          refine q_iconst rfl rfl ?_
          refine q_icge rfl rfl (fun c486 => absurd c486 (by decide)) (fun c486 => ?_)
          refine q_aload_n rfl rfl rfl ?_
          refine q_getf rfl rfl (by decide) rfl rfl ?_
          refine q_bipush rfl rfl ?_
          refine q_iload_n rfl rfl rfl ?_
          refine q_iadd rfl rfl (q_tn (z := 13) rfl ?_)
          refine q_aload_n rfl rfl rfl ?_
          refine q_getf rfl rfl (by decide) rfl rfl ?_
          refine q_iload_n rfl rfl rfl ?_
          refine q_iald rfl rfl (by decide) (FW_51 S hW) (by decide) (q_tn (z := 0) rfl ?_)
          refine q_iast rfl rfl (by decide) rfl (by decide) ?_
          refine q_icc1 (z := 2) rfl rfl rfl rfl rfl ?_
          refine q_goto rfl ?_
          refine q_iload_n rfl rfl rfl ?_
          refine q_iconst rfl rfl ?_
          refine q_icge rfl rfl (fun c487 => absurd c487 (by decide)) (fun c487 => ?_)
          refine q_aload_n rfl rfl rfl ?_
          refine q_getf rfl rfl (by decide) rfl rfl ?_
          refine q_bipush rfl rfl ?_
          refine q_iload_n rfl rfl rfl ?_
          refine q_iadd rfl rfl (q_tn (z := 14) rfl ?_)
          refine q_aload_n rfl rfl rfl ?_
          refine q_getf rfl rfl (by decide) rfl rfl ?_
          refine q_iload_n rfl rfl rfl ?_
          refine q_iald rfl rfl (by decide) (FW_51 S hW) (by decide) (q_tn (z := 0) rfl ?_)
          refine q_iast rfl rfl (by decide) rfl (by decide) ?_
          refine q_icc1 (z := 3) rfl rfl rfl rfl rfl ?_
          refine q_goto rfl ?_
          refine q_iload_n rfl rfl rfl ?_
          refine q_iconst rfl rfl ?_
          refine q_icge rfl rfl (fun c488 => absurd c488 (by decide)) (fun c488 => ?_)
          refine q_aload_n rfl rfl rfl ?_
          refine q_getf rfl rfl (by decide) rfl rfl ?_
          refine q_bipush rfl rfl ?_
          refine q_iload_n rfl rfl rfl ?_
          refine q_iadd rfl rfl (q_tn (z := 15) rfl ?_)
          refine q_aload_n rfl rfl rfl ?_
          refine q_getf rfl rfl (by decide) rfl rfl ?_
          refine q_iload_n rfl rfl rfl ?_
          refine q_iald rfl rfl (by decide) (FW_51 S hW) (by decide) (q_tn (z := 0) rfl ?_)
          refine q_iast rfl rfl (by decide) rfl (by decide) ?_
          refine q_icc1 (z := 4) rfl rfl rfl rfl rfl ?_
          refine q_goto rfl ?_
          refine q_iload_n rfl rfl rfl ?_
          refine q_iconst rfl rfl ?_
          refine q_icge rfl rfl (fun c489 => ?_) (fun c489 => absurd (by decide) c489)
          refine q_ret rfl rfl ?_
          refine ⟨rfl, ?_⟩
          refine q_iconst rfl rfl ?_
          refine q_ist3n rfl rfl rfl rfl ?_
          refine q_iload_n rfl rfl rfl ?_
          refine q_bipush rfl rfl ?_
          refine q_icge rfl rfl (fun c490 => absurd c490 (by decide)) (fun c490 => ?_)
          refine q_aload_n rfl rfl rfl ?_
          refine q_getf rfl rfl (by decide) rfl rfl ?_
          refine q_iload_n rfl rfl rfl ?_
          refine q_aload_n rfl rfl rfl ?_
          refine q_getf rfl rfl (by decide) rfl rfl ?_
          refine q_iload_n rfl rfl rfl ?_
          refine q_iald rfl rfl (by decide) rfl (by decide) (q_tn (z := 10) rfl ?_)
          refine q_iast rfl rfl (by decide) (FW_53 S hW) (by decide) ?_
          refine q_icc3 (z := 1) rfl rfl rfl rfl rfl ?_
          refine q_goto rfl ?_
          refine q_iload_n rfl rfl rfl ?_
          refine q_bipush rfl rfl ?_
          refine q_icge rfl rfl (fun c491 => absurd c491 (by decide)) (fun c491 => ?_)
          refine q_aload_n rfl rfl rfl ?_
          refine q_getf rfl rfl (by decide) rfl rfl ?_
          refine q_iload_n rfl rfl rfl ?_
          refine q_aload_n rfl rfl rfl ?_
          refine q_getf rfl rfl (by decide) rfl rfl ?_
          refine q_iload_n rfl rfl rfl ?_
          refine q_iald rfl rfl (by decide) rfl (by decide) (q_tn (z := 0) rfl ?_)
          refine q_iast rfl rfl (by decide) rfl (by decide) ?_
          refine q_icc3 (z := 2) rfl rfl rfl rfl rfl ?_
          refine q_goto rfl ?_
          refine q_iload_n rfl rfl rfl ?_
          refine q_bipush rfl rfl ?_
          refine q_icge rfl rfl (fun c492 => absurd c492 (by decide)) (fun c492 => ?_)
          refine q_aload_n rfl rfl rfl ?_
          refine q_getf rfl rfl (by decide) rfl rfl ?_
          refine q_iload_n rfl rfl rfl ?_
          refine q_aload_n rfl rfl rfl ?_
          refine q_getf rfl rfl (by decide) rfl rfl ?_
          refine q_iload_n rfl rfl rfl ?_
          refine q_iald rfl rfl (by decide) rfl (by decide) (q_tn (z := 0) rfl ?_)
          refine q_iast rfl rfl (by decide) rfl (by decide) ?_
          refine q_icc3 (z := 3) rfl rfl rfl rfl rfl ?_
          refine q_goto rfl ?_
          refine q_iload_n rfl rfl rfl ?_
          refine q_bipush rfl rfl ?_
          refine q_icge rfl rfl (fun c493 => absurd c493 (by decide)) (fun c493 => ?_)
          refine q_aload_n rfl rfl rfl ?_
          refine q_getf rfl rfl (by decide) rfl rfl ?_
          refine q_iload_n rfl rfl rfl ?_
          refine q_aload_n rfl rfl rfl ?_
          refine q_getf rfl rfl (by decide) rfl rfl ?_
          refine q_iload_n rfl rfl rfl ?_
          refine q_iald rfl rfl (by decide) rfl (by decide) (q_tn (z := 0) rfl ?_)
          refine q_iast rfl rfl (by decide) rfl (by decide) ?_
          refine q_icc3 (z := 4) rfl rfl rfl rfl rfl ?_
          refine q_goto rfl ?_
          refine q_iload_n rfl rfl rfl ?_
          refine q_bipush rfl rfl ?_
          refine q_icge rfl rfl (fun c494 => absurd c494 (by decide)) (fun c494 => ?_)
          refine q_aload_n rfl rfl rfl ?_
          refine q_getf rfl rfl (by decide) rfl rfl ?_
          refine q_iload_n rfl rfl rfl ?_
          refine q_aload_n rfl rfl rfl ?_
          refine q_getf rfl rfl (by decide) rfl rfl ?_
          refine q_iload_n rfl rfl rfl ?_
          refine q_iald rfl rfl (by decide) rfl (by decide) (q_tn (z := 0) rfl ?_)
          refine q_iast rfl rfl (by decide) rfl (by decide) ?_
          refine q_icc3 (z := 5) rfl rfl rfl rfl rfl ?_
          refine q_goto rfl ?_
          refine q_iload_n rfl rfl rfl ?_
          refine q_bipush rfl rfl ?_
          refine q_icge rfl rfl (fun c495 => absurd c495 (by decide)) (fun c495 => ?_)
          refine q_aload_n rfl rfl rfl ?_
          refine q_getf rfl rfl (by decide) rfl rfl ?_
          refine q_iload_n rfl rfl rfl ?_
          refine q_aload_n rfl rfl rfl ?_
          refine q_getf rfl rfl (by decide) rfl rfl ?_
          refine q_iload_n rfl rfl rfl ?_
          refine q_iald rfl rfl (by decide) rfl (by decide) (q_tn (z := 0) rfl ?_)
          refine q_iast rfl rfl (by decide) rfl (by decide) ?_
          refine q_icc3 (z := 6) rfl rfl rfl rfl rfl ?_
          refine q_goto rfl ?_
          refine q_iload_n rfl rfl rfl ?_
          refine q_bipush rfl rfl ?_
          refine q_icge rfl rfl (fun c496 => absurd c496 (by decide)) (fun c496 => ?_)
          refine q_aload_n rfl rfl rfl ?_
          refine q_getf rfl rfl (by decide) rfl rfl ?_
          refine q_iload_n rfl rfl rfl ?_
          refine q_aload_n rfl rfl rfl ?_
          refine q_getf rfl rfl (by decide) rfl rfl ?_
          refine q_iload_n rfl rfl rfl ?_
          refine q_iald rfl rfl (by decide) rfl (by decide) (q_tn (z := 0) rfl ?_)
          refine q_iast rfl rfl (by decide) rfl (by decide) ?_
          refine q_icc3 (z := 7) rfl rfl rfl rfl rfl ?_
          refine q_goto rfl ?_
          refine q_iload_n rfl rfl rfl ?_
          refine q_bipush rfl rfl ?_
          refine q_icge rfl rfl (fun c497 => absurd c497 (by decide)) (fun c497 => ?_)
          refine q_aload_n rfl rfl rfl ?_
          refine q_getf rfl rfl (by decide) rfl rfl ?_
          refine q_iload_n rfl rfl rfl ?_
          refine q_aload_n rfl rfl rfl ?_
          refine q_getf rfl rfl (by decide) rfl rfl ?_
          refine q_iload_n rfl rfl rfl ?_
          refine q_iald rfl rfl (by decide) rfl (by decide) (q_tn (z := 0) rfl ?_)
          refine q_iast rfl rfl (by decide) rfl (by decide) ?_
          refine q_icc3 (z := 8) rfl rfl rfl rfl rfl ?_
          refine q_goto rfl ?_
          refine q_iload_n rfl rfl rfl ?_
          refine q_bipush rfl rfl ?_
          refine q_icge rfl rfl (fun c498 => absurd c498 (by decide)) (fun c498 => ?_)
          refine q_aload_n rfl rfl rfl ?_
          refine q_getf rfl rfl (by decide) rfl rfl ?_
          refine q_iload_n rfl rfl rfl ?_
          refine q_aload_n rfl rfl rfl ?_
          refine q_getf rfl rfl (by decide) rfl rfl ?_
          refine q_iload_n rfl rfl rfl ?_
          refine q_iald rfl rfl (by decide) rfl (by decide) (q_tn (z := 0) rfl ?_)
          refine q_iast rfl rfl (by decide) rfl (by decide) ?_
          refine q_icc3 (z := 9) rfl rfl rfl rfl rfl ?_
          refine q_goto rfl ?_
          refine q_iload_n rfl rfl rfl ?_
          refine q_bipush rfl rfl ?_
          refine q_icge rfl rfl (fun c499 => absurd c499 (by decide)) (fun c499 => ?_)
          refine q_aload_n rfl rfl rfl ?_
          refine q_getf rfl rfl (by decide) rfl rfl ?_
          refine q_iload_n rfl rfl rfl ?_
          refine q_aload_n rfl rfl rfl ?_
          refine q_getf rfl rfl (by decide) rfl rfl ?_
          refine q_iload_n rfl rfl rfl ?_
          refine q_iald rfl rfl (by decide) rfl (by decide) (q_tn (z := 0) rfl ?_)
          refine q_iast rfl rfl (by decide) rfl (by decide) ?_
          refine q_icc3 (z := 10) rfl rfl rfl rfl rfl ?_
          refine q_goto rfl ?_
          refine q_iload_n rfl rfl rfl ?_
          refine q_bipush rfl rfl ?_
          refine q_icge rfl rfl (fun c500 => absurd c500 (by decide)) (fun c500 => ?_)
          refine q_aload_n rfl rfl rfl ?_
          refine q_getf rfl rfl (by decide) rfl rfl ?_
          refine q_iload_n rfl rfl rfl ?_
          refine q_aload_n rfl rfl rfl ?_
          refine q_getf rfl rfl (by decide) rfl rfl ?_
          refine q_iload_n rfl rfl rfl ?_
          refine q_iald rfl rfl (by decide) rfl (by decide) (q_tn (z := 0) rfl ?_)
          refine q_iast rfl rfl (by decide) rfl (by decide) ?_
          refine q_icc3 (z := 11) rfl rfl rfl rfl rfl ?_
          refine q_goto rfl ?_
          refine q_iload_n rfl rfl rfl ?_
          refine q_bipush rfl rfl ?_
          refine q_icge rfl rfl (fun c501 => absurd c501 (by decide)) (fun c501 => ?_)
          refine q_aload_n rfl rfl rfl ?_
          refine q_getf rfl rfl (by decide) rfl rfl ?_
          refine q_iload_n rfl rfl rfl ?_
          refine q_aload_n rfl rfl rfl ?_
          refine q_getf rfl rfl (by decide) rfl rfl ?_
          refine q_iload_n rfl rfl rfl ?_
          refine q_iald rfl rfl (by decide) rfl (by decide) (q_tn (z := 0) rfl ?_)
          refine q_iast rfl rfl (by decide) rfl (by decide) ?_
          refine q_icc3 (z := 12) rfl rfl rfl rfl rfl ?_
          refine q_goto rfl ?_
          refine q_iload_n rfl rfl rfl ?_
          refine q_bipush rfl rfl ?_
          refine q_icge rfl rfl (fun c502 => absurd c502 (by decide)) (fun c502 => ?_)
          refine q_aload_n rfl rfl rfl ?_
          refine q_getf rfl rfl (by decide) rfl rfl ?_
          refine q_iload_n rfl rfl rfl ?_
          refine q_aload_n rfl rfl rfl ?_
          refine q_getf rfl rfl (by decide) rfl rfl ?_
          refine q_iload_n rfl rfl rfl ?_
          refine q_iald rfl rfl (by decide) rfl (by decide) (q_tn (z := 0) rfl ?_)
          refine q_iast rfl rfl (by decide) rfl (by decide) ?_
          refine q_icc3 (z := 13) rfl rfl rfl rfl rfl ?_
          refine q_goto rfl ?_
          refine q_iload_n rfl rfl rfl ?_
          refine q_bipush rfl rfl ?_
          refine q_icge rfl rfl (fun c503 => absurd c503 (by decide)) (fun c503 => ?_)
          refine q_aload_n rfl rfl rfl ?_
          refine q_getf rfl rfl (by decide) rfl rfl ?_
          refine q_iload_n rfl rfl rfl ?_
          refine q_aload_n rfl rfl rfl ?_
          refine q_getf rfl rfl (by decide) rfl rfl ?_
          refine q_iload_n rfl rfl rfl ?_
          refine q_iald rfl rfl (by decide) rfl (by decide) (q_tn (z := 0) rfl ?_)
          refine q_iast rfl rfl (by decide) rfl (by decide) ?_
          refine q_icc3 (z := 14) rfl rfl rfl rfl rfl ?_
          refine q_goto rfl ?_
          refine q_iload_n rfl rfl rfl ?_
          refine q_bipush rfl rfl ?_
          refine q_icge rfl rfl (fun c504 => absurd c504 (by decide)) (fun c504 => ?_)
          refine q_aload_n rfl rfl rfl ?_
          refine q_getf rfl rfl (by decide) rfl rfl ?_
          refine q_iload_n rfl rfl rfl ?_
          refine q_aload_n rfl rfl rfl ?_
          refine q_getf rfl rfl (by decide) rfl rfl ?_
          refine q_iload_n rfl rfl rfl ?_
          refine q_iald rfl rfl (by decide) rfl (by decide) (q_tn (z := 0) rfl ?_)
          refine q_iast rfl rfl (by decide) rfl (by decide) ?_
          refine q_icc3 (z := 15) rfl rfl rfl rfl rfl ?_
          refine q_goto rfl ?_
          refine q_iload_n rfl rfl rfl ?_
          refine q_bipush rfl rfl ?_
          refine q_icge rfl rfl (fun c505 => absurd c505 (by decide)) (fun c505 => ?_)
          refine q_aload_n rfl rfl rfl ?_
          refine q_getf rfl rfl (by decide) rfl rfl ?_
          refine q_iload_n rfl rfl rfl ?_
          refine q_aload_n rfl rfl rfl ?_
          refine q_getf rfl rfl (by decide) rfl rfl ?_
          refine q_iload_n rfl rfl rfl ?_
          refine q_iald rfl rfl (by decide) rfl (by decide) (q_tn (z := 0) rfl ?_)
          refine q_iast rfl rfl (by decide) rfl (by decide) ?_
          refine q_icc3 (z := 16) rfl rfl rfl rfl rfl ?_
          refine q_goto rfl ?_
          refine q_iload_n rfl rfl rfl ?_
          refine q_bipush rfl rfl ?_
          refine q_icge rfl rfl (fun c506 => absurd c506 (by decide)) (fun c506 => ?_)
          refine q_aload_n rfl rfl rfl ?_
          refine q_getf rfl rfl (by decide) rfl rfl ?_
          refine q_iload_n rfl rfl rfl ?_
          refine q_aload_n rfl rfl rfl ?_
          refine q_getf rfl rfl (by decide) rfl rfl ?_
          refine q_iload_n rfl rfl rfl ?_
          refine q_iald rfl rfl (by decide) rfl (by decide) (q_tn (z := 0) rfl ?_)
          refine q_iast rfl rfl (by decide) rfl (by decide) ?_
          refine q_icc3 (z := 17) rfl rfl rfl rfl rfl ?_
          refine q_goto rfl ?_
          refine q_iload_n rfl rfl rfl ?_
          refine q_bipush rfl rfl ?_
          refine q_icge rfl rfl (fun c507 => absurd c507 (by decide)) (fun c507 => ?_)
          refine q_aload_n rfl rfl rfl ?_
          refine q_getf rfl rfl (by decide) rfl rfl ?_
          refine q_iload_n rfl rfl rfl ?_
          refine q_aload_n rfl rfl rfl ?_
          refine q_getf rfl rfl (by decide) rfl rfl ?_
          refine q_iload_n rfl rfl rfl ?_
          refine q_iald rfl rfl (by decide) rfl (by decide) (q_tn (z := 0) rfl ?_)
          refine q_iast rfl rfl (by decide) rfl (by decide) ?_
          refine q_icc3 (z := 18) rfl rfl rfl rfl rfl ?_
          refine q_goto rfl ?_
          refine q_iload_n rfl rfl rfl ?_
          refine q_bipush rfl rfl ?_
          refine q_icge rfl rfl (fun c508 => absurd c508 (by decide)) (fun c508 => ?_)
          refine q_aload_n rfl rfl rfl ?_
          refine q_getf rfl rfl (by decide) rfl rfl ?_
          refine q_iload_n rfl rfl rfl ?_
          refine q_aload_n rfl rfl rfl ?_
          refine q_getf rfl rfl (by decide) rfl rfl ?_
          refine q_iload_n rfl rfl rfl ?_
          refine q_iald rfl rfl (by decide) rfl (by decide) (q_tn (z := 0) rfl ?_)
          refine q_iast rfl rfl (by decide) rfl (by decide) ?_
          refine q_icc3 (z := 19) rfl rfl rfl rfl rfl ?_
          refine q_goto rfl ?_
          refine q_iload_n rfl rfl rfl ?_
          refine q_bipush rfl rfl ?_
          refine q_icge rfl rfl (fun c509 => absurd c509 (by decide)) (fun c509 => ?_)
          refine q_aload_n rfl rfl rfl ?_
          refine q_getf rfl rfl (by decide) rfl rfl ?_
          refine q_iload_n rfl rfl rfl ?_
          refine q_aload_n rfl rfl rfl ?_
          refine q_getf rfl rfl (by decide) rfl rfl ?_
          refine q_iload_n rfl rfl rfl ?_
          refine q_iald rfl rfl (by decide) rfl (by decide) (q_tn (z := 0) rfl ?_)
          refine q_iast rfl rfl (by decide) rfl (by decide) ?_
          refine q_icc3 (z := 20) rfl rfl rfl rfl rfl ?_
          refine q_goto rfl ?_
          refine q_iload_n rfl rfl rfl ?_
          refine q_bipush rfl rfl ?_
          refine q_icge rfl rfl (fun c510 => ?_) (fun c510 => absurd (by decide) c510)
          refine q_aload_n rfl rfl rfl ?_
          refine q_iload_n rfl rfl rfl ?_
          refine q_iconst rfl rfl ?_
          refine q_iconst rfl rfl ?_
          refine q_nV3 rfl rfl (Or.inl rfl) rfl rfl rfl (by decide) rfl ⟨rfl, rfl⟩ rfl ?_
          change PQ _ _ _ mm_X12_put 0 [.ref 46, .int 0, .int (-1), .int (-1), pm_un, pm_un, pm_un] [] _ _ 0 0 _
          refine q_aload_n rfl rfl rfl ?_
          refine q_getf rfl rfl (by decide) rfl rfl ?_
          refine q_iload_n rfl rfl rfl ?_
          refine q_iald rfl rfl (by decide) rfl (by decide) (q_tn (z := 0) rfl ?_)
          refine q_ist4 rfl rfl rfl rfl ?_
          refine q_iload rfl rfl rfl ?_
          refine q_sipush rfl rfl ?_
          refine q_icne rfl rfl (fun c511 => absurd c511 (by decide)) (fun c511 => ?_)
          refine q_sipush rfl rfl ?_
          refine q_iload_n rfl rfl rfl ?_
          refine q_imul rfl rfl (q_tn (z := 0) rfl ?_)
          refine q_iload rfl rfl rfl ?_
          refine q_iadd rfl rfl (q_tn (z := 0) rfl ?_)
          refine q_ist5 rfl rfl rfl rfl ?_
          refine q_iconst rfl rfl ?_
          refine q_ist6 rfl rfl rfl rfl ?_
          refine q_iload rfl rfl rfl ?_
          refine q_bipush rfl rfl ?_
          refine q_icge rfl rfl (fun c512 => absurd c512 (by decide)) (fun c512 => ?_)
          refine q_aload_n rfl rfl rfl ?_
          refine q_getf rfl rfl (by decide) rfl rfl ?_
          refine q_bipush rfl rfl ?_
          refine q_iload rfl rfl rfl ?_
          refine q_imul rfl rfl (q_tn (z := 0) rfl ?_)
          refine q_iload rfl rfl rfl ?_
          refine q_iadd rfl rfl (q_tn (z := 0) rfl ?_)
          refine q_aload_n rfl rfl rfl ?_
          refine q_getf rfl rfl (by decide) rfl rfl ?_
          refine q_iload rfl rfl rfl ?_
          refine q_iald rfl rfl (by decide) rfl (by decide) (q_tn (z := 10) rfl ?_)
          refine q_iast rfl rfl (by decide) (FW_55 S hW) (by decide) ?_
          refine q_icc6 (z := 1) rfl rfl rfl rfl rfl ?_
          refine q_goto rfl ?_
          refine q_iload rfl rfl rfl ?_
          refine q_bipush rfl rfl ?_
          refine q_icge rfl rfl (fun c513 => absurd c513 (by decide)) (fun c513 => ?_)
          refine q_aload_n rfl rfl rfl ?_
          refine q_getf rfl rfl (by decide) rfl rfl ?_
          refine q_bipush rfl rfl ?_
          refine q_iload rfl rfl rfl ?_
          refine q_imul rfl rfl (q_tn (z := 0) rfl ?_)
          refine q_iload rfl rfl rfl ?_
          refine q_iadd rfl rfl (q_tn (z := 1) rfl ?_)
          refine q_aload_n rfl rfl rfl ?_
          refine q_getf rfl rfl (by decide) rfl rfl ?_
          refine q_iload rfl rfl rfl ?_
          refine q_iald rfl rfl (by decide) rfl (by decide) (q_tn (z := 0) rfl ?_)
          refine q_iast rfl rfl (by decide) rfl (by decide) ?_
          refine q_icc6 (z := 2) rfl rfl rfl rfl rfl ?_
          refine q_goto rfl ?_
          refine q_iload rfl rfl rfl ?_
          refine q_bipush rfl rfl ?_
          refine q_icge rfl rfl (fun c514 => absurd c514 (by decide)) (fun c514 => ?_)
          refine q_aload_n rfl rfl rfl ?_
          refine q_getf rfl rfl (by decide) rfl rfl ?_
          refine q_bipush rfl rfl ?_
          refine q_iload rfl rfl rfl ?_
          refine q_imul rfl rfl (q_tn (z := 0) rfl ?_)
          refine q_iload rfl rfl rfl ?_
          refine q_iadd rfl rfl (q_tn (z := 2) rfl ?_)
          refine q_aload_n rfl rfl rfl ?_
          refine q_getf rfl rfl (by decide) rfl rfl ?_
          refine q_iload rfl rfl rfl ?_
          refine q_iald rfl rfl (by decide) rfl (by decide) (q_tn (z := 0) rfl ?_)
          refine q_iast rfl rfl (by decide) rfl (by decide) ?_
          refine q_icc6 (z := 3) rfl rfl rfl rfl rfl ?_
          refine q_goto rfl ?_
          refine q_iload rfl rfl rfl ?_
          refine q_bipush rfl rfl ?_
          refine q_icge rfl rfl (fun c515 => absurd c515 (by decide)) (fun c515 => ?_)
          refine q_aload_n rfl rfl rfl ?_
          refine q_getf rfl rfl (by decide) rfl rfl ?_
          refine q_bipush rfl rfl ?_
          refine q_iload rfl rfl rfl ?_
          refine q_imul rfl rfl (q_tn (z := 0) rfl ?_)
          refine q_iload rfl rfl rfl ?_
          refine q_iadd rfl rfl (q_tn (z := 3) rfl ?_)
          refine q_aload_n rfl rfl rfl ?_
          refine q_getf rfl rfl (by decide) rfl rfl ?_
          refine q_iload rfl rfl rfl ?_
          refine q_iald rfl rfl (by decide) rfl (by decide) (q_tn (z := 0) rfl ?_)
          refine q_iast rfl rfl (by decide) rfl (by decide) ?_
          refine q_icc6 (z := 4) rfl rfl rfl rfl rfl ?_
          refine q_goto rfl ?_
          refine q_iload rfl rfl rfl ?_
          refine q_bipush rfl rfl ?_
          refine q_icge rfl rfl (fun c516 => absurd c516 (by decide)) (fun c516 => ?_)
          refine q_aload_n rfl rfl rfl ?_
          refine q_getf rfl rfl (by decide) rfl rfl ?_
          refine q_bipush rfl rfl ?_
          refine q_iload rfl rfl rfl ?_
          refine q_imul rfl rfl (q_tn (z := 0) rfl ?_)
          refine q_iload rfl rfl rfl ?_
          refine q_iadd rfl rfl (q_tn (z := 4) rfl ?_)
          refine q_aload_n rfl rfl rfl ?_
          refine q_getf rfl rfl (by decide) rfl rfl ?_
          refine q_iload rfl rfl rfl ?_
          refine q_iald rfl rfl (by decide) rfl (by decide) (q_tn (z := 0) rfl ?_)
          refine q_iast rfl rfl (by decide) rfl (by decide) ?_
          refine q_icc6 (z := 5) rfl rfl rfl rfl rfl ?_
          refine q_goto rfl ?_
          refine q_iload rfl rfl rfl ?_
          refine q_bipush rfl rfl ?_
          refine q_icge rfl rfl (fun c517 => absurd c517 (by decide)) (fun c517 => ?_)
          refine q_aload_n rfl rfl rfl ?_
          refine q_getf rfl rfl (by decide) rfl rfl ?_
          refine q_bipush rfl rfl ?_
          refine q_iload rfl rfl rfl ?_
          refine q_imul rfl rfl (q_tn (z := 0) rfl ?_)
          refine q_iload rfl rfl rfl ?_
          refine q_iadd rfl rfl (q_tn (z := 5) rfl ?_)
          refine q_aload_n rfl rfl rfl ?_
          refine q_getf rfl rfl (by decide) rfl rfl ?_
          refine q_iload rfl rfl rfl ?_
          refine q_iald rfl rfl (by decide) rfl (by decide) (q_tn (z := 0) rfl ?_)
          refine q_iast rfl rfl (by decide) rfl (by decide) ?_
          refine q_icc6 (z := 6) rfl rfl rfl rfl rfl ?_
          refine q_goto rfl ?_
          refine q_iload rfl rfl rfl ?_
          refine q_bipush rfl rfl ?_
          refine q_icge rfl rfl (fun c518 => absurd c518 (by decide)) (fun c518 => ?_)
          refine q_aload_n rfl rfl rfl ?_
          refine q_getf rfl rfl (by decide) rfl rfl ?_
          refine q_bipush rfl rfl ?_
          refine q_iload rfl rfl rfl ?_
          refine q_imul rfl rfl (q_tn (z := 0) rfl ?_)
          refine q_iload rfl rfl rfl ?_
          refine q_iadd rfl rfl (q_tn (z := 6) rfl ?_)
          refine q_aload_n rfl rfl rfl ?_
          refine q_getf rfl rfl (by decide) rfl rfl ?_
          refine q_iload rfl rfl rfl ?_
          refine q_iald rfl rfl (by decide) rfl (by decide) (q_tn (z := 0) rfl ?_)
          refine q_iast rfl rfl (by decide) rfl (by decide) ?_
          refine q_icc6 (z := 7) rfl rfl rfl rfl rfl ?_
          refine q_goto rfl ?_
          refine q_iload rfl rfl rfl ?_
          refine q_bipush rfl rfl ?_
          refine q_icge rfl rfl (fun c519 => absurd c519 (by decide)) (fun c519 => ?_)
          refine q_aload_n rfl rfl rfl ?_
          refine q_getf rfl rfl (by decide) rfl rfl ?_
          refine q_bipush rfl rfl ?_
          refine q_iload rfl rfl rfl ?_
          refine q_imul rfl rfl (q_tn (z := 0) rfl ?_)
          refine q_iload rfl rfl rfl ?_
          refine q_iadd rfl rfl (q_tn (z := 7) rfl ?_)
          refine q_aload_n rfl rfl rfl ?_
          refine q_getf rfl rfl (by decide) rfl rfl ?_
          refine q_iload rfl rfl rfl ?_
          refine q_iald rfl rfl (by decide) rfl (by decide) (q_tn (z := 0) rfl ?_)
          refine q_iast rfl rfl (by decide) rfl (by decide) ?_
          refine q_icc6 (z := 8) rfl rfl rfl rfl rfl ?_
          refine q_goto rfl ?_
          refine q_iload rfl rfl rfl ?_
          refine q_bipush rfl rfl ?_
          refine q_icge rfl rfl (fun c520 => absurd c520 (by decide)) (fun c520 => ?_)
          refine q_aload_n rfl rfl rfl ?_
          refine q_getf rfl rfl (by decide) rfl rfl ?_
          refine q_bipush rfl rfl ?_
          refine q_iload rfl rfl rfl ?_
          refine q_imul rfl rfl (q_tn (z := 0) rfl ?_)
          refine q_iload rfl rfl rfl ?_
          refine q_iadd rfl rfl (q_tn (z := 8) rfl ?_)
          refine q_aload_n rfl rfl rfl ?_
          refine q_getf rfl rfl (by decide) rfl rfl ?_
          refine q_iload rfl rfl rfl ?_
          refine q_iald rfl rfl (by decide) rfl (by decide) (q_tn (z := 0) rfl ?_)
          refine q_iast rfl rfl (by decide) rfl (by decide) ?_
          refine q_icc6 (z := 9) rfl rfl rfl rfl rfl ?_
          refine q_goto rfl ?_
          refine q_iload rfl rfl rfl ?_
          refine q_bipush rfl rfl ?_
          refine q_icge rfl rfl (fun c521 => absurd c521 (by decide)) (fun c521 => ?_)
          refine q_aload_n rfl rfl rfl ?_
          refine q_getf rfl rfl (by decide) rfl rfl ?_
          refine q_bipush rfl rfl ?_
          refine q_iload rfl rfl rfl ?_
          refine q_imul rfl rfl (q_tn (z := 0) rfl ?_)
          refine q_iload rfl rfl rfl ?_
          refine q_iadd rfl rfl (q_tn (z := 9) rfl ?_)
          refine q_aload_n rfl rfl rfl ?_
          refine q_getf rfl rfl (by decide) rfl rfl ?_
          refine q_iload rfl rfl rfl ?_
          refine q_iald rfl rfl (by decide) rfl (by decide) (q_tn (z := 0) rfl ?_)
          refine q_iast rfl rfl (by decide) rfl (by decide) ?_
          refine q_icc6 (z := 10) rfl rfl rfl rfl rfl ?_
          refine q_goto rfl ?_
          refine q_iload rfl rfl rfl ?_
          refine q_bipush rfl rfl ?_
          refine q_icge rfl rfl (fun c522 => absurd c522 (by decide)) (fun c522 => ?_)
          refine q_aload_n rfl rfl rfl ?_
          refine q_getf rfl rfl (by decide) rfl rfl ?_
          refine q_bipush rfl rfl ?_
          refine q_iload rfl rfl rfl ?_
          refine q_imul rfl rfl (q_tn (z := 0) rfl ?_)
          refine q_iload rfl rfl rfl ?_
          refine q_iadd rfl rfl (q_tn (z := 10) rfl ?_)
          refine q_aload_n rfl rfl rfl ?_
          refine q_getf rfl rfl (by decide) rfl rfl ?_
          refine q_iload rfl rfl rfl ?_
          refine q_iald rfl rfl (by decide) rfl (by decide) (q_tn (z := 0) rfl ?_)
          refine q_iast rfl rfl (by decide) rfl (by decide) ?_
          refine q_icc6 (z := 11) rfl rfl rfl rfl rfl ?_
          refine q_goto rfl ?_
          refine q_iload rfl rfl rfl ?_
          refine q_bipush rfl rfl ?_
          refine q_icge rfl rfl (fun c523 => absurd c523 (by decide)) (fun c523 => ?_)
          refine q_aload_n rfl rfl rfl ?_
          refine q_getf rfl rfl (by decide) rfl rfl ?_
          refine q_bipush rfl rfl ?_
          refine q_iload rfl rfl rfl ?_
          refine q_imul rfl rfl (q_tn (z := 0) rfl ?_)
          refine q_iload rfl rfl rfl ?_
          refine q_iadd rfl rfl (q_tn (z := 11) rfl ?_)
          refine q_aload_n rfl rfl rfl ?_
          refine q_getf rfl rfl (by decide) rfl rfl ?_
          refine q_iload rfl rfl rfl ?_
          refine q_iald rfl rfl (by decide) rfl (by decide) (q_tn (z := 0) rfl ?_)
          refine q_iast rfl rfl (by decide) rfl (by decide) ?_
          refine q_icc6 (z := 12) rfl rfl rfl rfl rfl ?_
          refine q_goto rfl ?_
          refine q_iload rfl rfl rfl ?_
          refine q_bipush rfl rfl ?_
          refine q_icge rfl rfl (fun c524 => absurd c524 (by decide)) (fun c524 => ?_)
          refine q_aload_n rfl rfl rfl ?_
          refine q_getf rfl rfl (by decide) rfl rfl ?_
          refine q_bipush rfl rfl ?_
          refine q_iload rfl rfl rfl ?_
          refine q_imul rfl rfl (q_tn (z := 0) rfl ?_)
          refine q_iload rfl rfl rfl ?_
          refine q_iadd rfl rfl (q_tn (z := 12) rfl ?_)
          refine q_aload_n rfl rfl rfl ?_
          refine q_getf rfl rfl (by decide) rfl rfl ?_
          refine q_iload rfl rfl rfl ?_
          refine q_iald rfl rfl (by decide) rfl (by decide) (q_tn (z := 0) rfl ?_)
          refine q_iast rfl rfl (by decide) rfl (by decide) ?_
          refine q_icc6 (z := 13) rfl rfl rfl rfl rfl ?_
          refine q_goto rfl ?_
          refine q_iload rfl rfl rfl ?_
          refine q_bipush rfl rfl ?_
          refine q_icge rfl rfl (fun c525 => absurd c525 (by decide)) (fun c525 => ?_)
          refine q_aload_n rfl rfl rfl ?_
          refine q_getf rfl rfl (by decide) rfl rfl ?_
          refine q_bipush rfl rfl ?_
          refine q_iload rfl rfl rfl ?_
          refine q_imul rfl rfl (q_tn (z := 0) rfl ?_)
          refine q_iload rfl rfl rfl ?_
          refine q_iadd rfl rfl (q_tn (z := 13) rfl ?_)
          refine q_aload_n rfl rfl rfl ?_
          refine q_getf rfl rfl (by decide) rfl rfl ?_
          refine q_iload rfl rfl rfl ?_
          refine q_iald rfl rfl (by decide) rfl (by decide) (q_tn (z := 0) rfl ?_)
          refine q_iast rfl rfl (by decide) rfl (by decide) ?_
          refine q_icc6 (z := 14) rfl rfl rfl rfl rfl ?_
          refine q_goto rfl ?_
          refine q_iload rfl rfl rfl ?_
          refine q_bipush rfl rfl ?_
          refine q_icge rfl rfl (fun c526 => absurd c526 (by decide)) (fun c526 => ?_)
          refine q_aload_n rfl rfl rfl ?_
          refine q_getf rfl rfl (by decide) rfl rfl ?_
          refine q_bipush rfl rfl ?_
          refine q_iload rfl rfl rfl ?_
          refine q_imul rfl rfl (q_tn (z := 0) rfl ?_)
          refine q_iload rfl rfl rfl ?_
          refine q_iadd rfl rfl (q_tn (z := 14) rfl ?_)
          refine q_aload_n rfl rfl rfl ?_
          refine q_getf rfl rfl (by decide) rfl rfl ?_
          refine q_iload rfl rfl rfl ?_
          refine q_iald rfl rfl (by decide) rfl (by decide) (q_tn (z := 0) rfl ?_)
          refine q_iast rfl rfl (by decide) rfl (by decide) ?_
          refine q_icc6 (z := 15) rfl rfl rfl rfl rfl ?_
          refine q_goto rfl ?_
          refine q_iload rfl rfl rfl ?_
          refine q_bipush rfl rfl ?_
          refine q_icge rfl rfl (fun c527 => absurd c527 (by decide)) (fun c527 => ?_)
          refine q_aload_n rfl rfl rfl ?_
          refine q_getf rfl rfl (by decide) rfl rfl ?_
          refine q_bipush rfl rfl ?_
          refine q_iload rfl rfl rfl ?_
          refine q_imul rfl rfl (q_tn (z := 0) rfl ?_)
          refine q_iload rfl rfl rfl ?_
          refine q_iadd rfl rfl (q_tn (z := 15) rfl ?_)
          refine q_aload_n rfl rfl rfl ?_
          refine q_getf rfl rfl (by decide) rfl rfl ?_
          refine q_iload rfl rfl rfl ?_
          refine q_iald rfl rfl (by decide) rfl (by decide) (q_tn (z := 0) rfl ?_)
          refine q_iast rfl rfl (by decide) rfl (by decide) ?_
          refine q_icc6 (z := 16) rfl rfl rfl rfl rfl ?_
          refine q_goto rfl ?_
          refine q_iload rfl rfl rfl ?_
          refine q_bipush rfl rfl ?_
          refine q_icge rfl rfl (fun c528 => absurd c528 (by decide)) (fun c528 => ?_)
          refine q_aload_n rfl rfl rfl ?_
          refine q_getf rfl rfl (by decide) rfl rfl ?_
          refine q_bipush rfl rfl ?_
          refine q_iload rfl rfl rfl ?_
          refine q_imul rfl rfl (q_tn (z := 0) rfl ?_)
          refine q_iload rfl rfl rfl ?_
          refine q_iadd rfl rfl (q_tn (z := 16) rfl ?_)
          refine q_aload_n rfl rfl rfl ?_
          refine q_getf rfl rfl (by decide) rfl rfl ?_
          refine q_iload rfl rfl rfl ?_
          refine q_iald rfl rfl (by decide) rfl (by decide) (q_tn (z := 0) rfl ?_)
          refine q_iast rfl rfl (by decide) rfl (by decide) ?_
          refine q_icc6 (z := 17) rfl rfl rfl rfl rfl ?_
          refine q_goto rfl ?_
          refine q_iload rfl rfl rfl ?_
          refine q_bipush rfl rfl ?_
          refine q_icge rfl rfl (fun c529 => absurd c529 (by decide)) (fun c529 => ?_)
          refine q_aload_n rfl rfl rfl ?_
          refine q_getf rfl rfl (by decide) rfl rfl ?_
          refine q_bipush rfl rfl ?_
          refine q_iload rfl rfl rfl ?_
          refine q_imul rfl rfl (q_tn (z := 0) rfl ?_)
          refine q_iload rfl rfl rfl ?_
          refine q_iadd rfl rfl (q_tn (z := 17) rfl ?_)
          refine q_aload_n rfl rfl rfl ?_
          refine q_getf rfl rfl (by decide) rfl rfl ?_
          refine q_iload rfl rfl rfl ?_
          refine q_iald rfl rfl (by decide) rfl (by decide) (q_tn (z := 0) rfl ?_)
          refine q_iast rfl rfl (by decide) rfl (by decide) ?_
          refine q_icc6 (z := 18) rfl rfl rfl rfl rfl ?_
          refine q_goto rfl ?_
          refine q_iload rfl rfl rfl ?_
          refine q_bipush rfl rfl ?_
          refine q_icge rfl rfl (fun c530 => absurd c530 (by decide)) (fun c530 => ?_)
          refine q_aload_n rfl rfl rfl ?_
          refine q_getf rfl rfl (by decide) rfl rfl ?_
          refine q_bipush rfl rfl ?_
          refine q_iload rfl rfl rfl ?_
          refine q_imul rfl rfl (q_tn (z := 0) rfl ?_)
          refine q_iload rfl rfl rfl ?_
          refine q_iadd rfl rfl (q_tn (z := 18) rfl ?_)
          refine q_aload_n rfl rfl rfl ?_
          refine q_getf rfl rfl (by decide) rfl rfl ?_
          refine q_iload rfl rfl rfl ?_
          refine q_iald rfl rfl (by decide) rfl (by decide) (q_tn (z := 0) rfl ?_)
          refine q_iast rfl rfl (by decide) rfl (by decide) ?_
          refine q_icc6 (z := 19) rfl rfl rfl rfl rfl ?_
          refine q_goto rfl ?_
          refine q_iload rfl rfl rfl ?_
          refine q_bipush rfl rfl ?_
          refine q_icge rfl rfl (fun c531 => absurd c531 (by decide)) (fun c531 => ?_)
          refine q_aload_n rfl rfl rfl ?_
          refine q_getf rfl rfl (by decide) rfl rfl ?_
          refine q_bipush rfl rfl ?_
          refine q_iload rfl rfl rfl ?_
          refine q_imul rfl rfl (q_tn (z := 0) rfl ?_)
          refine q_iload rfl rfl rfl ?_
          refine q_iadd rfl rfl (q_tn (z := 19) rfl ?_)
          refine q_aload_n rfl rfl rfl ?_
          refine q_getf rfl rfl (by decide) rfl rfl ?_
          refine q_iload rfl rfl rfl ?_
          refine q_iald rfl rfl (by decide) rfl (by decide) (q_tn (z := 0) rfl ?_)
          refine q_iast rfl rfl (by decide) rfl (by decide) ?_
          refine q_icc6 (z := 20) rfl rfl rfl rfl rfl ?_
          refine q_goto rfl ?_
          refine q_iload rfl rfl rfl ?_
          refine q_bipush rfl rfl ?_
          refine q_icge rfl rfl (fun c532 => ?_) (fun c532 => absurd (by decide) c532)
          refine q_aload_n rfl rfl rfl ?_
          refine q_getf rfl rfl (by decide) rfl rfl ?_
          refine q_iload rfl rfl rfl ?_
          refine q_iload_n rfl rfl rfl ?_
          refine q_iast rfl rfl (by decide) (FW_56 S hW) (by decide) ?_
          refine q_aload_n rfl rfl rfl ?_
          refine q_getf rfl rfl (by decide) rfl rfl ?_
          refine q_iload rfl rfl rfl ?_
          refine q_iload_n rfl rfl rfl ?_
          refine q_iast rfl rfl (by decide) (FW_57 S hW) (by decide) ?_
          refine q_aload_n rfl rfl rfl ?_
          refine q_iload_n rfl rfl rfl ?_
          refine q_nV1 rfl rfl (Or.inl rfl) rfl rfl rfl (by decide) rfl ⟨rfl, rfl⟩ rfl ?_
          change PQ _ _ _ mm_X12_rest 0 [.ref 46, .int 0, pm_un, pm_un] [] _ _ 0 0 _
          refine q_bipush rfl rfl ?_
          refine q_ist2n rfl rfl rfl rfl ?_
          refine q_iconst rfl rfl ?_
          refine q_ist3n rfl rfl rfl rfl ?_
          refine q_iload_n rfl rfl rfl ?_
          refine q_bipush rfl rfl ?_
          refine q_icge rfl rfl (fun c533 => absurd c533 (by decide)) (fun c533 => ?_)
          refine q_bipush rfl rfl ?_
          refine q_iload_n rfl rfl rfl ?_
          refine q_imul rfl rfl (q_tn (z := 527) rfl ?_)
          refine q_aload_n rfl rfl rfl ?_
          refine q_getf rfl rfl (by decide) rfl rfl ?_
          refine q_iload_n rfl rfl rfl ?_
          refine q_iald rfl rfl (by decide) rfl (by decide) (q_tn (z := 10) rfl ?_)
          refine q_iadd rfl rfl (q_tn (z := 537) rfl ?_)
          refine q_ist2n rfl rfl rfl rfl ?_
          refine q_icc3 (z := 1) rfl rfl rfl rfl rfl ?_
          refine q_goto rfl ?_
          refine q_iload_n rfl rfl rfl ?_
          refine q_bipush rfl rfl ?_
          refine q_icge rfl rfl (fun c534 => absurd c534 (by decide)) (fun c534 => ?_)
          refine q_bipush rfl rfl ?_
          refine q_iload_n rfl rfl rfl ?_
          refine q_imul rfl rfl (q_tn (z := 16647) rfl ?_)
          refine q_aload_n rfl rfl rfl ?_
          refine q_getf rfl rfl (by decide) rfl rfl ?_
          refine q_iload_n rfl rfl rfl ?_
          refine q_iald rfl rfl (by decide) rfl (by decide) (q_tn (z := 0) rfl ?_)
          refine q_iadd rfl rfl (q_tn (z := 16647) rfl ?_)
          refine q_ist2n rfl rfl rfl rfl ?_
          refine q_icc3 (z := 2) rfl rfl rfl rfl rfl ?_
          refine q_goto rfl ?_
          refine q_iload_n rfl rfl rfl ?_
          refine q_bipush rfl rfl ?_
          refine q_icge rfl rfl (fun c535 => absurd c535 (by decide)) (fun c535 => ?_)
          refine q_bipush rfl rfl ?_
          refine q_iload_n rfl rfl rfl ?_
          refine q_imul rfl rfl (q_tn (z := 516057) rfl ?_)
          refine q_aload_n rfl rfl rfl ?_
          refine q_getf rfl rfl (by decide) rfl rfl ?_
          refine q_iload_n rfl rfl rfl ?_
          refine q_iald rfl rfl (by decide) rfl (by decide) (q_tn (z := 0) rfl ?_)
          refine q_iadd rfl rfl (q_tn (z := 516057) rfl ?_)
          refine q_ist2n rfl rfl rfl rfl ?_
          refine q_icc3 (z := 3) rfl rfl rfl rfl rfl ?_
          refine q_goto rfl ?_
          refine q_iload_n rfl rfl rfl ?_
          refine q_bipush rfl rfl ?_
          refine q_icge rfl rfl (fun c536 => absurd c536 (by decide)) (fun c536 => ?_)
          refine q_bipush rfl rfl ?_
          refine q_iload_n rfl rfl rfl ?_
          refine q_imul rfl rfl (q_tn (z := 15997767) rfl ?_)
          refine q_aload_n rfl rfl rfl ?_
          refine q_getf rfl rfl (by decide) rfl rfl ?_
          refine q_iload_n rfl rfl rfl ?_
          refine q_iald rfl rfl (by decide) rfl (by decide) (q_tn (z := 0) rfl ?_)
          refine q_iadd rfl rfl (q_tn (z := 15997767) rfl ?_)
          refine q_ist2n rfl rfl rfl rfl ?_
          refine q_icc3 (z := 4) rfl rfl rfl rfl rfl ?_
          refine q_goto rfl ?_
          refine q_iload_n rfl rfl rfl ?_
          refine q_bipush rfl rfl ?_
          refine q_icge rfl rfl (fun c537 => absurd c537 (by decide)) (fun c537 => ?_)
          refine q_bipush rfl rfl ?_
          refine q_iload_n rfl rfl rfl ?_
          refine q_imul rfl rfl (q_tn (z := 495930777) rfl ?_)
          refine q_aload_n rfl rfl rfl ?_
          refine q_getf rfl rfl (by decide) rfl rfl ?_
          refine q_iload_n rfl rfl rfl ?_
          refine q_iald rfl rfl (by decide) rfl (by decide) (q_tn (z := 0) rfl ?_)
          refine q_iadd rfl rfl (q_tn (z := 495930777) rfl ?_)
          refine q_ist2n rfl rfl rfl rfl ?_
          refine q_icc3 (z := 5) rfl rfl rfl rfl rfl ?_
          refine q_goto rfl ?_
          refine q_iload_n rfl rfl rfl ?_
          refine q_bipush rfl rfl ?_
          refine q_icge rfl rfl (fun c538 => absurd c538 (by decide)) (fun c538 => ?_)
          refine q_bipush rfl rfl ?_
          refine q_iload_n rfl rfl rfl ?_
          refine q_imul rfl rfl (q_tn (z := (-1806015097)) rfl ?_)
          refine q_aload_n rfl rfl rfl ?_
          refine q_getf rfl rfl (by decide) rfl rfl ?_
          refine q_iload_n rfl rfl rfl ?_
          refine q_iald rfl rfl (by decide) rfl (by decide) (q_tn (z := 0) rfl ?_)
          refine q_iadd rfl rfl (q_tn (z := (-1806015097)) rfl ?_)
          refine q_ist2n rfl rfl rfl rfl ?_
          refine q_icc3 (z := 6) rfl rfl rfl rfl rfl ?_
          refine q_goto rfl ?_
          refine q_iload_n rfl rfl rfl ?_
          refine q_bipush rfl rfl ?_
          refine q_icge rfl rfl (fun c539 => absurd c539 (by decide)) (fun c539 => ?_)
          refine q_bipush rfl rfl ?_
          refine q_iload_n rfl rfl rfl ?_
          refine q_imul rfl rfl (q_tn (z := (-151893159)) rfl ?_)
          refine q_aload_n rfl rfl rfl ?_
          refine q_getf rfl rfl (by decide) rfl rfl ?_
          refine q_iload_n rfl rfl rfl ?_
          refine q_iald rfl rfl (by decide) rfl (by decide) (q_tn (z := 0) rfl ?_)
          refine q_iadd rfl rfl (q_tn (z := (-151893159)) rfl ?_)
          refine q_ist2n rfl rfl rfl rfl ?_
          refine q_icc3 (z := 7) rfl rfl rfl rfl rfl ?_
          refine q_goto rfl ?_
          refine q_iload_n rfl rfl rfl ?_
          refine q_bipush rfl rfl ?_
          refine q_icge rfl rfl (fun c540 => absurd c540 (by decide)) (fun c540 => ?_)
          refine q_bipush rfl rfl ?_
          refine q_iload_n rfl rfl rfl ?_
          refine q_imul rfl rfl (q_tn (z := (-413720633)) rfl ?_)
          refine q_aload_n rfl rfl rfl ?_
          refine q_getf rfl rfl (by decide) rfl rfl ?_
          refine q_iload_n rfl rfl rfl ?_
          refine q_iald rfl rfl (by decide) rfl (by decide) (q_tn (z := 0) rfl ?_)
          refine q_iadd rfl rfl (q_tn (z := (-413720633)) rfl ?_)
          refine q_ist2n rfl rfl rfl rfl ?_
          refine q_icc3 (z := 8) rfl rfl rfl rfl rfl ?_
          refine q_goto rfl ?_
          refine q_iload_n rfl rfl rfl ?_
          refine q_bipush rfl rfl ?_
          refine q_icge rfl rfl (fun c541 => absurd c541 (by decide)) (fun c541 => ?_)
          refine q_bipush rfl rfl ?_
          refine q_iload_n rfl rfl rfl ?_
          refine q_imul rfl rfl (q_tn (z := 59562265) rfl ?_)
          refine q_aload_n rfl rfl rfl ?_
          refine q_getf rfl rfl (by decide) rfl rfl ?_
          refine q_iload_n rfl rfl rfl ?_
          refine q_iald rfl rfl (by decide) rfl (by decide) (q_tn (z := 0) rfl ?_)
          refine q_iadd rfl rfl (q_tn (z := 59562265) rfl ?_)
          refine q_ist2n rfl rfl rfl rfl ?_
          refine q_icc3 (z := 9) rfl rfl rfl rfl rfl ?_
          refine q_goto rfl ?_
          refine q_iload_n rfl rfl rfl ?_
          refine q_bipush rfl rfl ?_
          refine q_icge rfl rfl (fun c542 => absurd c542 (by decide)) (fun c542 => ?_)
          refine q_bipush rfl rfl ?_
          refine q_iload_n rfl rfl rfl ?_
          refine q_imul rfl rfl (q_tn (z := 1846430215) rfl ?_)
          refine q_aload_n rfl rfl rfl ?_
          refine q_getf rfl rfl (by decide) rfl rfl ?_
          refine q_iload_n rfl rfl rfl ?_
          refine q_iald rfl rfl (by decide) rfl (by decide) (q_tn (z := 0) rfl ?_)
          refine q_iadd rfl rfl (q_tn (z := 1846430215) rfl ?_)
          refine q_ist2n rfl rfl rfl rfl ?_
          refine q_icc3 (z := 10) rfl rfl rfl rfl rfl ?_
          refine q_goto rfl ?_
          refine q_iload_n rfl rfl rfl ?_
          refine q_bipush rfl rfl ?_
          refine q_icge rfl rfl (fun c543 => absurd c543 (by decide)) (fun c543 => ?_)
          refine q_bipush rfl rfl ?_
          refine q_iload_n rfl rfl rfl ?_
          refine q_imul rfl rfl (q_tn (z := 1404761817) rfl ?_)
          refine q_aload_n rfl rfl rfl ?_
          refine q_getf rfl rfl (by decide) rfl rfl ?_
          refine q_iload_n rfl rfl rfl ?_
          refine q_iald rfl rfl (by decide) rfl (by decide) (q_tn (z := 0) rfl ?_)
          refine q_iadd rfl rfl (q_tn (z := 1404761817) rfl ?_)
          refine q_ist2n rfl rfl rfl rfl ?_
          refine q_icc3 (z := 11) rfl rfl rfl rfl rfl ?_
          refine q_goto rfl ?_
          refine q_iload_n rfl rfl rfl ?_
          refine q_bipush rfl rfl ?_
          refine q_icge rfl rfl (fun c544 => absurd c544 (by decide)) (fun c544 => ?_)
          refine q_bipush rfl rfl ?_
          refine q_iload_n rfl rfl rfl ?_
          refine q_imul rfl rfl (q_tn (z := 597943367) rfl ?_)
          refine q_aload_n rfl rfl rfl ?_
          refine q_getf rfl rfl (by decide) rfl rfl ?_
          refine q_iload_n rfl rfl rfl ?_
          refine q_iald rfl rfl (by decide) rfl (by decide) (q_tn (z := 0) rfl ?_)
          refine q_iadd rfl rfl (q_tn (z := 597943367) rfl ?_)
          refine q_ist2n rfl rfl rfl rfl ?_
          refine q_icc3 (z := 12) rfl rfl rfl rfl rfl ?_
          refine q_goto rfl ?_
          refine q_iload_n rfl rfl rfl ?_
          refine q_bipush rfl rfl ?_
          refine q_icge rfl rfl (fun c545 => absurd c545 (by decide)) (fun c545 => ?_)
          refine q_bipush rfl rfl ?_
          refine q_iload_n rfl rfl rfl ?_
          as_aux_lemma =>
            refine q_imul rfl rfl (q_tn (z := 1356375193) rfl ?_)
            refine q_aload_n rfl rfl rfl ?_
            refine q_getf rfl rfl (by decide) rfl rfl ?_
            refine q_iload_n rfl rfl rfl ?_
            refine q_iald rfl rfl (by decide) rfl (by decide) (q_tn (z := 0) rfl ?_)
            refine q_iadd rfl rfl (q_tn (z := 1356375193) rfl ?_)
            refine q_ist2n rfl rfl rfl rfl ?_
            refine q_icc3 (z := 13) rfl rfl rfl rfl rfl ?_
            refine q_goto rfl ?_
            refine q_iload_n rfl rfl rfl ?_
            refine q_bipush rfl rfl ?_
            refine q_icge rfl rfl (fun c546 => absurd c546 (by decide)) (fun c546 => ?_)
            refine q_bipush rfl rfl ?_
            refine q_iload_n rfl rfl rfl ?_
            refine q_imul rfl rfl (q_tn (z := (-902041977)) rfl ?_)
            refine q_aload_n rfl rfl rfl ?_
            refine q_getf rfl rfl (by decide) rfl rfl ?_
            refine q_iload_n rfl rfl rfl ?_
            refine q_iald rfl rfl (by decide) rfl (by decide) (q_tn (z := 0) rfl ?_)
            refine q_iadd rfl rfl (q_tn (z := (-902041977)) rfl ?_)
            refine q_ist2n rfl rfl rfl rfl ?_
            refine q_icc3 (z := 14) rfl rfl rfl rfl rfl ?_
            refine q_goto rfl ?_
            refine q_iload_n rfl rfl rfl ?_
            refine q_bipush rfl rfl ?_
            refine q_icge rfl rfl (fun c547 => absurd c547 (by decide)) (fun c547 => ?_)
            refine q_bipush rfl rfl ?_
            refine q_iload_n rfl rfl rfl ?_
            refine q_imul rfl rfl (q_tn (z := 2101469785) rfl ?_)
            refine q_aload_n rfl rfl rfl ?_
            refine q_getf rfl rfl (by decide) rfl rfl ?_
            refine q_iload_n rfl rfl rfl ?_
            refine q_iald rfl rfl (by decide) rfl (by decide) (q_tn (z := 0) rfl ?_)
            refine q_iadd rfl rfl (q_tn (z := 2101469785) rfl ?_)
            refine q_ist2n rfl rfl rfl rfl ?_
            refine q_icc3 (z := 15) rfl rfl rfl rfl rfl ?_
            refine q_goto rfl ?_
            refine q_iload_n rfl rfl rfl ?_
            refine q_bipush rfl rfl ?_
            refine q_icge rfl rfl (fun c548 => absurd c548 (by decide)) (fun c548 => ?_)
            refine q_bipush rfl rfl ?_
            refine q_iload_n rfl rfl rfl ?_
            refine q_imul rfl rfl (q_tn (z := 721053895) rfl ?_)
            refine q_aload_n rfl rfl rfl ?_
            refine q_getf rfl rfl (by decide) rfl rfl ?_
            refine q_iload_n rfl rfl rfl ?_
            refine q_iald rfl rfl (by decide) rfl (by decide) (q_tn (z := 0) rfl ?_)
            refine q_iadd rfl rfl (q_tn (z := 721053895) rfl ?_)
            refine q_ist2n rfl rfl rfl rfl ?_
            refine q_icc3 (z := 16) rfl rfl rfl rfl rfl ?_
            refine q_goto rfl ?_
            refine q_iload_n rfl rfl rfl ?_
            refine q_bipush rfl rfl ?_
            refine q_icge rfl rfl (fun c549 => absurd c549 (by decide)) (fun c549 => ?_)
            refine q_bipush rfl rfl ?_
            refine q_iload_n rfl rfl rfl ?_
            refine q_imul rfl rfl (q_tn (z := 877834265) rfl ?_)
            refine q_aload_n rfl rfl rfl ?_
            refine q_getf rfl rfl (by decide) rfl rfl ?_
            refine q_iload_n rfl rfl rfl ?_
            refine q_iald rfl rfl (by decide) rfl (by decide) (q_tn (z := 0) rfl ?_)
            refine q_iadd rfl rfl (q_tn (z := 877834265) rfl ?_)
            refine q_ist2n rfl rfl rfl rfl ?_
            refine q_icc3 (z := 17) rfl rfl rfl rfl rfl ?_
            refine q_goto rfl ?_
            refine q_iload_n rfl rfl rfl ?_
            refine q_bipush rfl rfl ?_
            refine q_icge rfl rfl (fun c550 => absurd c550 (by decide)) (fun c550 => ?_)
            refine q_bipush rfl rfl ?_
            refine q_iload_n rfl rfl rfl ?_
            refine q_imul rfl rfl (q_tn (z := 1443058439) rfl ?_)
            refine q_aload_n rfl rfl rfl ?_
            refine q_getf rfl rfl (by decide) rfl rfl ?_
            refine q_iload_n rfl rfl rfl ?_
            refine q_iald rfl rfl (by decide) rfl (by decide) (q_tn (z := 0) rfl ?_)
            refine q_iadd rfl rfl (q_tn (z := 1443058439) rfl ?_)
            refine q_ist2n rfl rfl rfl rfl ?_
            refine q_icc3 (z := 18) rfl rfl rfl rfl rfl ?_
            refine q_goto rfl ?_
            refine q_iload_n rfl rfl rfl ?_
            refine q_bipush rfl rfl ?_
            refine q_icge rfl rfl (fun c551 => absurd c551 (by decide)) (fun c551 => ?_)
            refine q_bipush rfl rfl ?_
            refine q_iload_n rfl rfl rfl ?_
            refine q_imul rfl rfl (q_tn (z := 1785138649) rfl ?_)
            refine q_aload_n rfl rfl rfl ?_
            refine q_getf rfl rfl (by decide) rfl rfl ?_
            refine q_iload_n rfl rfl rfl ?_
            refine q_iald rfl rfl (by decide) rfl (by decide) (q_tn (z := 0) rfl ?_)
            refine q_iadd rfl rfl (q_tn (z := 1785138649) rfl ?_)
            refine q_ist2n rfl rfl rfl rfl ?_
            refine q_icc3 (z := 19) rfl rfl rfl rfl rfl ?_
            refine q_goto rfl ?_
            refine q_iload_n rfl rfl rfl ?_
            refine q_bipush rfl rfl ?_
            refine q_icge rfl rfl (fun c552 => absurd c552 (by decide)) (fun c552 => ?_)
            refine q_bipush rfl rfl ?_
            refine q_iload_n rfl rfl rfl ?_
            refine q_imul rfl rfl (q_tn (z := (-495276729)) rfl ?_)
            refine q_aload_n rfl rfl rfl ?_
            refine q_getf rfl rfl (by decide) rfl rfl ?_
            refine q_iload_n rfl rfl rfl ?_
            refine q_iald rfl rfl (by decide) rfl (by decide) (q_tn (z := 0) rfl ?_)
            refine q_iadd rfl rfl (q_tn (z := (-495276729)) rfl ?_)
            refine q_ist2n rfl rfl rfl rfl ?_
            refine q_icc3 (z := 20) rfl rfl rfl rfl rfl ?_
            refine q_goto rfl ?_
            refine q_iload_n rfl rfl rfl ?_
            refine q_bipush rfl rfl ?_
            refine q_icge rfl rfl (fun c553 => ?_) (fun c553 => absurd (by decide) c553)
            refine q_sipush rfl rfl ?_
            refine q_iload_n rfl rfl rfl ?_
            refine q_imul rfl rfl (q_tn (z := 0) rfl ?_)
            refine q_iload_n rfl rfl rfl ?_
            refine q_iload_n rfl rfl rfl ?_
            refine q_bipush rfl rfl ?_
            refine q_iushr rfl rfl (q_tn (z := 463829) rfl ?_)
            refine q_ixor rfl rfl (q_tn (z := (-495075694)) rfl ?_)
            refine q_sipush rfl rfl ?_
            refine q_irem rfl rfl (by decide) (q_tn (z := (-366)) rfl ?_)
            refine q_iload_n rfl rfl rfl ?_
            refine q_iload_n rfl rfl rfl ?_
            refine q_bipush rfl rfl ?_
            refine q_iushr rfl rfl (q_tn (z := 463829) rfl ?_)
            refine q_ixor rfl rfl (q_tn (z := (-495075694)) rfl ?_)
            refine q_sipush rfl rfl ?_
            refine q_irem rfl rfl (by decide) (q_tn (z := (-366)) rfl ?_)
            refine q_ifge rfl rfl (fun c554 => absurd c554 (by decide)) (fun c554 => ?_)
            refine q_iconst rfl rfl ?_
            refine q_goto rfl ?_
            refine q_imul rfl rfl (q_tn (z := 366) rfl ?_)
            refine q_iadd rfl rfl (q_tn (z := 366) rfl ?_)
            refine q_iret rfl rfl trivial ?_
            refine ⟨_, rfl, ?_⟩
            refine q_ist6 rfl rfl rfl rfl ?_
            refine q_aload_n rfl rfl rfl ?_
            refine q_getf rfl rfl (by decide) rfl rfl ?_
            refine q_iload rfl rfl rfl ?_
            refine q_aload_n rfl rfl rfl ?_
            refine q_getf rfl rfl (by decide) rfl rfl ?_
            refine q_iload rfl rfl rfl ?_
            refine q_iald rfl rfl (by decide) rfl (by decide) (q_tn (z := (-1)) rfl ?_)
            refine q_iast rfl rfl (by decide) (FW_58 S hW) (by decide) ?_
            refine q_aload_n rfl rfl rfl ?_
            refine q_getf rfl rfl (by decide) rfl rfl ?_
            refine q_iload rfl rfl rfl ?_
            refine q_iload rfl rfl rfl ?_
            refine q_iast rfl rfl (by decide) rfl (by decide) ?_
            refine q_aload_n rfl rfl rfl ?_
            refine q_getf rfl rfl (by decide) rfl rfl ?_
            refine q_iload_n rfl rfl rfl ?_
            refine q_dup2 rfl rfl ?_
            refine q_iald rfl rfl (by decide) rfl (by decide) (q_tn (z := 0) rfl ?_)
            refine q_iconst rfl rfl ?_
            refine q_iadd rfl rfl (q_tn (z := 1) rfl ?_)
            refine q_iast rfl rfl (by decide) rfl (by decide) ?_
            refine q_iload rfl rfl rfl ?_
            refine q_iret rfl rfl trivial ?_
            refine ⟨_, rfl, ?_⟩
            refine q_ist3n rfl rfl rfl rfl ?_
            refine q_iconst rfl rfl ?_
            refine q_ist4 rfl rfl rfl rfl ?_
            refine q_iload rfl rfl rfl ?_
            refine q_aload_n rfl rfl rfl ?_
            refine q_getf rfl rfl (by decide) rfl rfl ?_
            refine q_iload_n rfl rfl rfl ?_
            refine q_iald rfl rfl (by decide) rfl (by decide) (q_tn (z := 1) rfl ?_)
            refine q_icge rfl rfl (fun c555 => absurd c555 (by decide)) (fun c555 => ?_)
            refine q_iconst rfl rfl ?_
            refine q_ist5 rfl rfl rfl rfl ?_
            refine q_iload rfl rfl rfl ?_
            refine q_iconst rfl rfl ?_
            refine q_icge rfl rfl (fun c556 => absurd c556 (by decide)) (fun c556 => ?_)
            refine q_iconst rfl rfl ?_
            refine q_sipush rfl rfl ?_
            refine q_iload_n rfl rfl rfl ?_
            refine q_imul rfl rfl (q_tn (z := 0) rfl ?_)
            refine q_iload rfl rfl rfl ?_
            refine q_iadd rfl rfl (q_tn (z := 0) rfl ?_)
            refine q_imul rfl rfl (q_tn (z := 0) rfl ?_)
            refine q_iload rfl rfl rfl ?_
            refine q_iadd rfl rfl (q_tn (z := 0) rfl ?_)
            refine q_ist6 rfl rfl rfl rfl ?_
            refine q_aload_n rfl rfl rfl ?_
            refine q_getf rfl rfl (by decide) rfl rfl ?_
            refine q_iload rfl rfl rfl ?_
            refine q_iconst rfl rfl ?_
            refine q_iast rfl rfl (by decide) (FW_59 S hW) (by decide) ?_
            refine q_aload_n rfl rfl rfl ?_
            refine q_iload_n rfl rfl rfl ?_
            refine q_iload rfl rfl rfl ?_
            refine q_cV2v rfl rfl (Or.inl rfl) rfl rfl rfl (by decide) rfl ⟨rfl, rfl⟩ rfl (fun K' hK' => l_sa (R := 0) (by decide) rfl (by decide) rfl rfl rfl rfl rfl hK') ?_
            refine q_iload rfl rfl rfl ?_
            refine q_aload_n rfl rfl rfl ?_
            refine q_getf rfl rfl (by decide) rfl rfl ?_
            refine q_icge rfl rfl (fun c557 => absurd c557 (by decide)) (fun c557 => ?_)
            refine q_aload_n rfl rfl rfl ?_
            refine q_iload rfl rfl rfl ?_
            refine q_iload_n rfl rfl rfl ?_
            refine q_nV2 rfl rfl (Or.inl rfl) rfl rfl rfl (by decide) rfl ⟨rfl, rfl⟩ rfl ?_
            change PQ _ _ _ mm_X12_maySteps 0 [.ref 46, .int 0, .int 0, pm_un, pm_un, pm_un] [] _ _ 0 0 _
            refine q_aload_n rfl rfl rfl ?_
            refine q_iload_n rfl rfl rfl ?_
            refine q_iload_n rfl rfl rfl ?_
            refine q_nV2 rfl rfl (Or.inl rfl) rfl rfl rfl (by decide) rfl ⟨rfl, rfl⟩ rfl ?_
            change PQ _ _ _ mm_X12_canStep 0 [.ref 46, .int 0, .int 0, pm_un] [] _ _ 0 0 _
            refine q_aload_n rfl rfl rfl ?_
            refine q_iload_n rfl rfl rfl ?_
            refine q_nV1 rfl rfl (Or.inl rfl) rfl rfl rfl (by decide) rfl ⟨rfl, rfl⟩ rfl ?_
            change PQ _ _ _ mm_X12_isOver 0 [.ref 46, .int 0] [] _ _ 0 0 _
            refine q_aload_n rfl rfl rfl ?_
            refine q_getf rfl rfl (by decide) rfl rfl ?_
            refine q_iconst rfl rfl ?_
            refine q_iload_n rfl rfl rfl ?_
            refine q_imul rfl rfl (q_tn (z := 0) rfl ?_)
            refine q_iald rfl rfl (by decide) rfl (by decide) (q_tn (z := 10) rfl ?_)
            refine q_bipush rfl rfl ?_
            refine q_iclt rfl rfl (fun c558 => absurd c558 (by decide)) (fun c558 => ?_)
            refine q_iconst rfl rfl ?_
            refine q_goto rfl ?_
            refine q_iret rfl rfl rfl ?_
            refine ⟨_, rfl, ?_⟩
            refine q_ifeq rfl rfl (fun c559 => absurd c559 (by decide)) (fun c559 => ?_)
            refine q_iconst rfl rfl ?_
            refine q_iret rfl rfl rfl ?_
            refine ⟨_, rfl, ?_⟩
            refine q_ifne rfl rfl (fun c560 => ?_) (fun c560 => absurd (by decide) c560)
            refine q_iconst rfl rfl ?_
            refine q_iret rfl rfl rfl ?_
            refine ⟨_, rfl, ?_⟩
            refine q_ifne rfl rfl (fun c561 => ?_) (fun c561 => absurd (by decide) c561)
            refine q_goto rfl ?_
            refine q_icc5 (z := 1) rfl rfl rfl rfl rfl ?_
            refine q_goto rfl ?_
            refine q_iload rfl rfl rfl ?_
            refine q_iconst rfl rfl ?_
            refine q_icge rfl rfl (fun c562 => absurd c562 (by decide)) (fun c562 => ?_)
            refine q_iconst rfl rfl ?_
            refine q_sipush rfl rfl ?_
            refine q_iload_n rfl rfl rfl ?_
            refine q_imul rfl rfl (q_tn (z := 0) rfl ?_)
            refine q_iload rfl rfl rfl ?_
            refine q_iadd rfl rfl (q_tn (z := 0) rfl ?_)
            refine q_imul rfl rfl (q_tn (z := 0) rfl ?_)
            refine q_iload rfl rfl rfl ?_
            refine q_iadd rfl rfl (q_tn (z := 1) rfl ?_)
            refine q_ist6 rfl rfl rfl rfl ?_
            refine q_aload_n rfl rfl rfl ?_
            refine q_getf rfl rfl (by decide) rfl rfl ?_
            refine q_iload rfl rfl rfl ?_
            refine q_iconst rfl rfl ?_
            refine q_iast rfl rfl (by decide) rfl (by decide) ?_
            refine q_aload_n rfl rfl rfl ?_
            refine q_iload_n rfl rfl rfl ?_
            refine q_iload rfl rfl rfl ?_
            refine q_cV2v rfl rfl (Or.inl rfl) rfl rfl rfl (by decide) rfl ⟨rfl, rfl⟩ rfl (fun K' hK' => l_sa (R := 0) (by decide) rfl (by decide) rfl rfl rfl rfl rfl hK') ?_
            refine q_iload rfl rfl rfl ?_
            refine q_aload_n rfl rfl rfl ?_
            refine q_getf rfl rfl (by decide) rfl rfl ?_
            refine q_icge rfl rfl (fun c563 => ?_) (fun c563 => absurd (by decide) c563)
            refine q_icc5 (z := 2) rfl rfl rfl rfl rfl ?_
            refine q_goto rfl ?_
            refine q_iload rfl rfl rfl ?_
            refine q_iconst rfl rfl ?_
            refine q_icge rfl rfl (fun c564 => absurd c564 (by decide)) (fun c564 => ?_)
            refine q_iconst rfl rfl ?_
            refine q_sipush rfl rfl ?_
            refine q_iload_n rfl rfl rfl ?_
            refine q_imul rfl rfl (q_tn (z := 0) rfl ?_)
            refine q_iload rfl rfl rfl ?_
            refine q_iadd rfl rfl (q_tn (z := 0) rfl ?_)
            refine q_imul rfl rfl (q_tn (z := 0) rfl ?_)
            refine q_iload rfl rfl rfl ?_
            refine q_iadd rfl rfl (q_tn (z := 2) rfl ?_)
            refine q_ist6 rfl rfl rfl rfl ?_
            refine q_aload_n rfl rfl rfl ?_
            refine q_getf rfl rfl (by decide) rfl rfl ?_
            refine q_iload rfl rfl rfl ?_
            refine q_iconst rfl rfl ?_
            refine q_iast rfl rfl (by decide) rfl (by decide) ?_
            refine q_aload_n rfl rfl rfl ?_
            refine q_iload_n rfl rfl rfl ?_
            refine q_iload rfl rfl rfl ?_
            refine q_cV2v rfl rfl (Or.inl rfl) rfl rfl rfl (by decide) rfl ⟨rfl, rfl⟩ rfl (fun K' hK' => l_sa (R := 0) (by decide) rfl (by decide) rfl rfl rfl rfl rfl hK') ?_
            refine q_iload rfl rfl rfl ?_
            refine q_aload_n rfl rfl rfl ?_
            refine q_getf rfl rfl (by decide) rfl rfl ?_
            refine q_icge rfl rfl (fun c565 => ?_) (fun c565 => absurd (by decide) c565)
            refine q_icc5 (z := 3) rfl rfl rfl rfl rfl ?_
            refine q_goto rfl ?_
            refine q_iload rfl rfl rfl ?_
            refine q_iconst rfl rfl ?_
            refine q_icge rfl rfl (fun c566 => ?_) (fun c566 => absurd (by decide) c566)
            refine q_icc4 (z := 1) rfl rfl rfl rfl rfl ?_
            refine q_goto rfl ?_
            refine q_iload rfl rfl rfl ?_
            refine q_aload_n rfl rfl rfl ?_
            refine q_getf rfl rfl (by decide) rfl rfl ?_
            refine q_iload_n rfl rfl rfl ?_
            refine q_iald rfl rfl (by decide) rfl (by decide) (q_tn (z := 1) rfl ?_)
            refine q_icge rfl rfl (fun c567 => ?_) (fun c567 => absurd (by decide) c567)
            refine q_iconst rfl rfl ?_
            refine q_iret rfl rfl rfl ?_
            refine ⟨_, rfl, ?_⟩
            refine q_ifeq rfl rfl (fun c568 => absurd c568 (by decide)) (fun c568 => ?_)
            refine q_iconst rfl rfl ?_
            refine q_goto rfl ?_
            refine q_iast rfl rfl (by decide) (FW_62 S hW) (by decide) ?_
            refine q_iload_n rfl rfl rfl ?_
            refine q_ifne rfl rfl (fun c569 => ?_) (fun c569 => absurd (by decide) c569)
            refine q_aload_n rfl rfl rfl ?_
            refine q_iconst rfl rfl ?_
            refine q_putf rfl rfl (by decide) rfl (by decide) rfl rfl ?_
            refine q_aload_n rfl rfl rfl ?_
            refine q_getf rfl rfl (by decide) rfl rfl ?_
            refine q_iload_n rfl rfl rfl ?_
            refine q_aload_n rfl rfl rfl ?_
            refine q_getf rfl rfl (by decide) rfl rfl ?_
            refine q_iload_n rfl rfl rfl ?_
            refine q_iald rfl rfl (by decide) rfl (by decide) (q_tn (z := 1) rfl ?_)
            refine q_iast rfl rfl (by decide) (FW_63 S hW) (by decide) ?_
            refine q_iconst rfl rfl ?_
            refine q_ist3n rfl rfl rfl rfl ?_
            refine q_iload_n rfl rfl rfl ?_
            refine q_iconst rfl rfl ?_
            refine q_icge rfl rfl (fun c570 => absurd c570 (by decide)) (fun c570 => ?_)
            refine q_aload_n rfl rfl rfl ?_
            refine q_getf rfl rfl (by decide) rfl rfl ?_
            refine q_iconst rfl rfl ?_
            refine q_iload_n rfl rfl rfl ?_
            refine q_imul rfl rfl (q_tn (z := 0) rfl ?_)
            refine q_iload_n rfl rfl rfl ?_
            refine q_iadd rfl rfl (q_tn (z := 0) rfl ?_)
            refine q_iconst rfl rfl ?_
            refine q_iast rfl rfl (by decide) (FW_64 S hW) (by decide) ?_
            refine q_icc3 (z := 1) rfl rfl rfl rfl rfl ?_
            refine q_goto rfl ?_
            refine q_iload_n rfl rfl rfl ?_
            refine q_iconst rfl rfl ?_
            refine q_icge rfl rfl (fun c571 => absurd c571 (by decide)) (fun c571 => ?_)
            refine q_aload_n rfl rfl rfl ?_
            refine q_getf rfl rfl (by decide) rfl rfl ?_
            refine q_iconst rfl rfl ?_
            refine q_iload_n rfl rfl rfl ?_
            refine q_imul rfl rfl (q_tn (z := 0) rfl ?_)
            refine q_iload_n rfl rfl rfl ?_
            refine q_iadd rfl rfl (q_tn (z := 1) rfl ?_)
            refine q_iconst rfl rfl ?_
            refine q_iast rfl rfl (by decide) rfl (by decide) ?_
            refine q_icc3 (z := 2) rfl rfl rfl rfl rfl ?_
            refine q_goto rfl ?_
            refine q_iload_n rfl rfl rfl ?_
            refine q_iconst rfl rfl ?_
            refine q_icge rfl rfl (fun c572 => absurd c572 (by decide)) (fun c572 => ?_)
            refine q_aload_n rfl rfl rfl ?_
            refine q_getf rfl rfl (by decide) rfl rfl ?_
            refine q_iconst rfl rfl ?_
            refine q_iload_n rfl rfl rfl ?_
            refine q_imul rfl rfl (q_tn (z := 0) rfl ?_)
            refine q_iload_n rfl rfl rfl ?_
            refine q_iadd rfl rfl (q_tn (z := 2) rfl ?_)
            refine q_iconst rfl rfl ?_
            refine q_iast rfl rfl (by decide) rfl (by decide) ?_
            refine q_icc3 (z := 3) rfl rfl rfl rfl rfl ?_
            refine q_goto rfl ?_
            refine q_iload_n rfl rfl rfl ?_
            refine q_iconst rfl rfl ?_
            refine q_icge rfl rfl (fun c573 => absurd c573 (by decide)) (fun c573 => ?_)
            refine q_aload_n rfl rfl rfl ?_
            refine q_getf rfl rfl (by decide) rfl rfl ?_
            refine q_iconst rfl rfl ?_
            refine q_iload_n rfl rfl rfl ?_
            refine q_imul rfl rfl (q_tn (z := 0) rfl ?_)
            refine q_iload_n rfl rfl rfl ?_
            refine q_iadd rfl rfl (q_tn (z := 3) rfl ?_)
            refine q_iconst rfl rfl ?_
            refine q_iast rfl rfl (by decide) rfl (by decide) ?_
            refine q_icc3 (z := 4) rfl rfl rfl rfl rfl ?_
            refine q_goto rfl ?_
            refine q_iload_n rfl rfl rfl ?_
            refine q_iconst rfl rfl ?_
            refine q_icge rfl rfl (fun c574 => ?_) (fun c574 => absurd (by decide) c574)
            refine q_iconst rfl rfl ?_
            refine q_ist3n rfl rfl rfl rfl ?_
            refine q_iload_n rfl rfl rfl ?_
            refine q_aload_n rfl rfl rfl ?_
            refine q_getf rfl rfl (by decide) rfl rfl ?_
            refine q_iload_n rfl rfl rfl ?_
            refine q_iald rfl rfl (by decide) rfl (by decide) (q_tn (z := 1) rfl ?_)
            refine q_icge rfl rfl (fun c575 => absurd c575 (by decide)) (fun c575 => ?_)
            refine q_aload_n rfl rfl rfl ?_
            refine q_iload_n rfl rfl rfl ?_
            refine q_iload_n rfl rfl rfl ?_
            refine q_cV2v rfl rfl (Or.inl rfl) rfl rfl rfl (by decide) rfl ⟨rfl, rfl⟩ rfl (fun K' hK' => l_sa (R := 0) (by decide) rfl (by decide) rfl rfl rfl rfl rfl hK') ?_
            refine q_aload_n rfl rfl rfl ?_
            refine q_nV0 rfl rfl (Or.inl rfl) rfl rfl rfl (by decide) rfl ⟨rfl, rfl⟩ rfl ?_
            change PQ _ _ _ mm_X12_isEnd 0 [.ref 46, pm_un, pm_un] [] _ _ 0 0 _
            refine q_iconst rfl rfl ?_
            refine q_ist1n rfl rfl rfl rfl ?_
            refine q_iconst rfl rfl ?_
            refine q_ist2n rfl rfl rfl rfl ?_
            refine q_iload_n rfl rfl rfl ?_
            refine q_aload_n rfl rfl rfl ?_
            refine q_getf rfl rfl (by decide) rfl rfl ?_
            refine q_icge rfl rfl (fun c576 => absurd c576 (by decide)) (fun c576 => ?_)
            refine q_iload_n rfl rfl rfl ?_
            refine q_ifeq rfl rfl (fun c577 => absurd c577 (by decide)) (fun c577 => ?_)
            refine q_aload_n rfl rfl rfl ?_
            refine q_iload_n rfl rfl rfl ?_
            refine q_nV1 rfl rfl (Or.inl rfl) rfl rfl rfl (by decide) rfl ⟨rfl, rfl⟩ rfl ?_
            change PQ _ _ _ mm_X12_isOver 0 [.ref 46, .int 0] [] _ _ 0 0 _
            refine q_aload_n rfl rfl rfl ?_
            refine q_getf rfl rfl (by decide) rfl rfl ?_
            refine q_iconst rfl rfl ?_
            refine q_iload_n rfl rfl rfl ?_
            refine q_imul rfl rfl (q_tn (z := 0) rfl ?_)
            refine q_iald rfl rfl (by decide) rfl (by decide) (q_tn (z := 10) rfl ?_)
            refine q_bipush rfl rfl ?_
            refine q_iclt rfl rfl (fun c578 => absurd c578 (by decide)) (fun c578 => ?_)
            refine q_iconst rfl rfl ?_
            refine q_goto rfl ?_
            refine q_iret rfl rfl rfl ?_
            refine ⟨_, rfl, ?_⟩
            refine q_ifeq rfl rfl (fun c579 => absurd c579 (by decide)) (fun c579 => ?_)
            refine q_iconst rfl rfl ?_
            refine q_goto rfl ?_
            refine q_ist1n rfl rfl rfl rfl ?_
            refine q_icc2 (z := 1) rfl rfl rfl rfl rfl ?_
            refine q_goto rfl ?_
            refine q_iload_n rfl rfl rfl ?_
            refine q_aload_n rfl rfl rfl ?_
            refine q_getf rfl rfl (by decide) rfl rfl ?_
            refine q_icge rfl rfl (fun c580 => ?_) (fun c580 => absurd (by decide) c580)
            refine q_iload_n rfl rfl rfl ?_
            refine q_iret rfl rfl rfl ?_
            refine ⟨_, rfl, ?_⟩
            refine q_ifne rfl rfl (fun c581 => absurd c581 (by decide)) (fun c581 => ?_)
            refine q_iconst rfl rfl ?_
            refine q_ist4 rfl rfl rfl rfl ?_
            refine q_iload rfl rfl rfl ?_
            refine q_iconst rfl rfl ?_
            refine q_icge rfl rfl (fun c582 => absurd c582 (by decide)) (fun c582 => ?_)
            refine q_aload_n rfl rfl rfl ?_
            refine q_getf rfl rfl (by decide) rfl rfl ?_
            refine q_iconst rfl rfl ?_
            refine q_iload_n rfl rfl rfl ?_
            refine q_imul rfl rfl (q_tn (z := 0) rfl ?_)
            refine q_iload rfl rfl rfl ?_
            refine q_iadd rfl rfl (q_tn (z := 0) rfl ?_)
            refine q_dup2 rfl rfl ?_
            refine q_iald rfl rfl (by decide) rfl (by decide) (q_tn (z := 0) rfl ?_)
            refine q_iconst rfl rfl ?_
            refine q_aload_n rfl rfl rfl ?_
            refine q_getf rfl rfl (by decide) rfl rfl ?_
            refine q_bipush rfl rfl ?_
            refine q_iload rfl rfl rfl ?_
            refine q_iadd rfl rfl (q_tn (z := 12) rfl ?_)
            refine q_iald rfl rfl (by decide) rfl (by decide) (q_tn (z := 0) rfl ?_)
            refine q_ishl rfl rfl (q_tn (z := 1) rfl ?_)
            refine q_ior rfl rfl (q_tn (z := 1) rfl ?_)
            refine q_iast rfl rfl (by decide) rfl (by decide) ?_
            refine q_icc4 (z := 1) rfl rfl rfl rfl rfl ?_
            refine q_goto rfl ?_
            refine q_iload rfl rfl rfl ?_
            refine q_iconst rfl rfl ?_
            refine q_icge rfl rfl (fun c583 => absurd c583 (by decide)) (fun c583 => ?_)
            refine q_aload_n rfl rfl rfl ?_
            refine q_getf rfl rfl (by decide) rfl rfl ?_
            refine q_iconst rfl rfl ?_
            refine q_iload_n rfl rfl rfl ?_
            refine q_imul rfl rfl (q_tn (z := 0) rfl ?_)
            refine q_iload rfl rfl rfl ?_
            refine q_iadd rfl rfl (q_tn (z := 1) rfl ?_)
            refine q_dup2 rfl rfl ?_
            refine q_iald rfl rfl (by decide) rfl (by decide) (q_tn (z := 0) rfl ?_)
            refine q_iconst rfl rfl ?_
            refine q_aload_n rfl rfl rfl ?_
            refine q_getf rfl rfl (by decide) rfl rfl ?_
            refine q_bipush rfl rfl ?_
            refine q_iload rfl rfl rfl ?_
            refine q_iadd rfl rfl (q_tn (z := 13) rfl ?_)
            refine q_iald rfl rfl (by decide) rfl (by decide) (q_tn (z := 0) rfl ?_)
            refine q_ishl rfl rfl (q_tn (z := 1) rfl ?_)
            refine q_ior rfl rfl (q_tn (z := 1) rfl ?_)
            refine q_iast rfl rfl (by decide) rfl (by decide) ?_
            refine q_icc4 (z := 2) rfl rfl rfl rfl rfl ?_
            refine q_goto rfl ?_
            refine q_iload rfl rfl rfl ?_
            refine q_iconst rfl rfl ?_
            refine q_icge rfl rfl (fun c584 => absurd c584 (by decide)) (fun c584 => ?_)
            refine q_aload_n rfl rfl rfl ?_
            refine q_getf rfl rfl (by decide) rfl rfl ?_
            refine q_iconst rfl rfl ?_
            refine q_iload_n rfl rfl rfl ?_
            refine q_imul rfl rfl (q_tn (z := 0) rfl ?_)
            refine q_iload rfl rfl rfl ?_
            refine q_iadd rfl rfl (q_tn (z := 2) rfl ?_)
            refine q_dup2 rfl rfl ?_
            refine q_iald rfl rfl (by decide) rfl (by decide) (q_tn (z := 0) rfl ?_)
            refine q_iconst rfl rfl ?_
            refine q_aload_n rfl rfl rfl ?_
            refine q_getf rfl rfl (by decide) rfl rfl ?_
            refine q_bipush rfl rfl ?_
            refine q_iload rfl rfl rfl ?_
            refine q_iadd rfl rfl (q_tn (z := 14) rfl ?_)
            refine q_iald rfl rfl (by decide) rfl (by decide) (q_tn (z := 0) rfl ?_)
            refine q_ishl rfl rfl (q_tn (z := 1) rfl ?_)
            refine q_ior rfl rfl (q_tn (z := 1) rfl ?_)
            refine q_iast rfl rfl (by decide) rfl (by decide) ?_
            refine q_icc4 (z := 3) rfl rfl rfl rfl rfl ?_
            refine q_goto rfl ?_
            refine q_iload rfl rfl rfl ?_
            refine q_iconst rfl rfl ?_
            refine q_icge rfl rfl (fun c585 => absurd c585 (by decide)) (fun c585 => ?_)
            refine q_aload_n rfl rfl rfl ?_
            refine q_getf rfl rfl (by decide) rfl rfl ?_
            refine q_iconst rfl rfl ?_
            refine q_iload_n rfl rfl rfl ?_
            refine q_imul rfl rfl (q_tn (z := 0) rfl ?_)
            refine q_iload rfl rfl rfl ?_
            refine q_iadd rfl rfl (q_tn (z := 3) rfl ?_)
            refine q_dup2 rfl rfl ?_
            refine q_iald rfl rfl (by decide) rfl (by decide) (q_tn (z := 0) rfl ?_)
            refine q_iconst rfl rfl ?_
            refine q_aload_n rfl rfl rfl ?_
            refine q_getf rfl rfl (by decide) rfl rfl ?_
            refine q_bipush rfl rfl ?_
            refine q_iload rfl rfl rfl ?_
            refine q_iadd rfl rfl (q_tn (z := 15) rfl ?_)
            refine q_iald rfl rfl (by decide) rfl (by decide) (q_tn (z := 0) rfl ?_)
            refine q_ishl rfl rfl (q_tn (z := 1) rfl ?_)
            refine q_ior rfl rfl (q_tn (z := 1) rfl ?_)
            refine q_iast rfl rfl (by decide) rfl (by decide) ?_
            refine q_icc4 (z := 4) rfl rfl rfl rfl rfl ?_
            refine q_goto rfl ?_
            refine q_iload rfl rfl rfl ?_
            refine q_iconst rfl rfl ?_
            refine q_icge rfl rfl (fun c586 => ?_) (fun c586 => absurd (by decide) c586)
            refine q_icc3 (z := 1) rfl rfl rfl rfl rfl ?_
            refine q_goto rfl ?_
            refine q_iload_n rfl rfl rfl ?_
            refine q_aload_n rfl rfl rfl ?_
            refine q_getf rfl rfl (by decide) rfl rfl ?_
            refine q_iload_n rfl rfl rfl ?_
            refine q_iald rfl rfl (by decide) rfl (by decide) (q_tn (z := 1) rfl ?_)
            refine q_icge rfl rfl (fun c587 => ?_) (fun c587 => absurd (by decide) c587)
            refine q_aload_n rfl rfl rfl ?_
            refine q_getf rfl rfl (by decide) rfl rfl ?_
            refine q_iload_n rfl rfl rfl ?_
            refine q_iald rfl rfl (by decide) rfl (by decide) (q_tn (z := 1) rfl ?_)
            refine q_iconst rfl rfl ?_
            refine q_icne rfl rfl (fun c588 => absurd c588 (by decide)) (fun c588 => ?_)
            refine q_iconst rfl rfl ?_
            refine q_iret rfl rfl rfl ?_
            refine ⟨_, rfl, ?_⟩
            refine q_ifeq rfl rfl (fun c589 => ?_) (fun c589 => absurd (by decide) c589)
            refine q_iload_n rfl rfl rfl ?_
            refine q_iconst rfl rfl ?_
            refine q_icne rfl rfl (fun c590 => absurd c590 (by decide)) (fun c590 => ?_)
            refine q_iconst rfl rfl ?_
            refine q_ist2n rfl rfl rfl rfl ?_
            refine q_iconst rfl rfl ?_
            refine q_ist3n rfl rfl rfl rfl ?_
            refine q_iload_n rfl rfl rfl ?_
            refine q_aload_n rfl rfl rfl ?_
            refine q_getf rfl rfl (by decide) rfl rfl ?_
            refine q_iconst rfl rfl ?_
            refine q_iald rfl rfl (by decide) rfl (by decide) (q_tn (z := 1) rfl ?_)
            refine q_icge rfl rfl (fun c591 => absurd c591 (by decide)) (fun c591 => ?_)
            refine q_iload_n rfl rfl rfl ?_
            refine q_aload_n rfl rfl rfl ?_
            refine q_iload_n rfl rfl rfl ?_
            refine q_iload_n rfl rfl rfl ?_
            refine q_nV2 rfl rfl (Or.inl rfl) rfl rfl rfl (by decide) rfl ⟨rfl, rfl⟩ rfl ?_
            change PQ _ _ _ mm_X12_isSuch 0 [.ref 46, .int 1, .int 0] [] _ _ 0 0 _
            refine q_iload_n rfl rfl rfl ?_
            refine q_iconst rfl rfl ?_
            refine q_icne rfl rfl (fun c592 => absurd c592 (by decide)) (fun c592 => ?_)
            refine q_iload_n rfl rfl rfl ?_
            refine q_iconst rfl rfl ?_
            refine q_icne rfl rfl (fun c593 => ?_) (fun c593 => absurd (by decide) c593)
            refine q_aload_n rfl rfl rfl ?_
            refine q_iconst rfl rfl ?_
            refine q_iload_n rfl rfl rfl ?_
            refine q_nV2 rfl rfl (Or.inl rfl) rfl rfl rfl (by decide) rfl ⟨rfl, rfl⟩ rfl ?_
            change PQ _ _ _ mm_X12_isStuck 0 [.ref 46, .int 0, .int 0, pm_un, pm_un] [] _ _ 0 0 _
            refine q_iconst rfl rfl ?_
            refine q_ist3n rfl rfl rfl rfl ?_
            refine q_iconst rfl rfl ?_
            refine q_ist4 rfl rfl rfl rfl ?_
            refine q_iload rfl rfl rfl ?_
            refine q_iconst rfl rfl ?_
            refine q_icge rfl rfl (fun c594 => absurd c594 (by decide)) (fun c594 => ?_)
            refine q_iload_n rfl rfl rfl ?_
            refine q_ifeq rfl rfl (fun c595 => absurd c595 (by decide)) (fun c595 => ?_)
            refine q_aload_n rfl rfl rfl ?_
            refine q_getf rfl rfl (by decide) rfl rfl ?_
            refine q_iconst rfl rfl ?_
            refine q_sipush rfl rfl ?_
            refine q_iload_n rfl rfl rfl ?_
            refine q_imul rfl rfl (q_tn (z := 0) rfl ?_)
            refine q_iload_n rfl rfl rfl ?_
            refine q_iadd rfl rfl (q_tn (z := 0) rfl ?_)
            refine q_imul rfl rfl (q_tn (z := 0) rfl ?_)
            refine q_iload rfl rfl rfl ?_
            refine q_iadd rfl rfl (q_tn (z := 0) rfl ?_)
            refine q_iald rfl rfl (by decide) rfl (by decide) (q_tn (z := (-1)) rfl ?_)
            refine q_ifge rfl rfl (fun c596 => absurd c596 (by decide)) (fun c596 => ?_)
            refine q_iconst rfl rfl ?_
            refine q_goto rfl ?_
            refine q_ist3n rfl rfl rfl rfl ?_
            refine q_icc4 (z := 1) rfl rfl rfl rfl rfl ?_
            refine q_goto rfl ?_
            refine q_iload rfl rfl rfl ?_
            refine q_iconst rfl rfl ?_
            refine q_icge rfl rfl (fun c597 => absurd c597 (by decide)) (fun c597 => ?_)
            refine q_iload_n rfl rfl rfl ?_
            refine q_ifeq rfl rfl (fun c598 => absurd c598 (by decide)) (fun c598 => ?_)
            refine q_aload_n rfl rfl rfl ?_
            refine q_getf rfl rfl (by decide) rfl rfl ?_
            refine q_iconst rfl rfl ?_
            refine q_sipush rfl rfl ?_
            refine q_iload_n rfl rfl rfl ?_
            refine q_imul rfl rfl (q_tn (z := 0) rfl ?_)
            refine q_iload_n rfl rfl rfl ?_
            refine q_iadd rfl rfl (q_tn (z := 0) rfl ?_)
            refine q_imul rfl rfl (q_tn (z := 0) rfl ?_)
            refine q_iload rfl rfl rfl ?_
            refine q_iadd rfl rfl (q_tn (z := 1) rfl ?_)
            refine q_iald rfl rfl (by decide) rfl (by decide) (q_tn (z := (-1)) rfl ?_)
            refine q_ifge rfl rfl (fun c599 => absurd c599 (by decide)) (fun c599 => ?_)
            refine q_iconst rfl rfl ?_
            refine q_goto rfl ?_
            refine q_ist3n rfl rfl rfl rfl ?_
            refine q_icc4 (z := 2) rfl rfl rfl rfl rfl ?_
            refine q_goto rfl ?_
            refine q_iload rfl rfl rfl ?_
            refine q_iconst rfl rfl ?_
            refine q_icge rfl rfl (fun c600 => absurd c600 (by decide)) (fun c600 => ?_)
            refine q_iload_n rfl rfl rfl ?_
            refine q_ifeq rfl rfl (fun c601 => absurd c601 (by decide)) (fun c601 => ?_)
            refine q_aload_n rfl rfl rfl ?_
            refine q_getf rfl rfl (by decide) rfl rfl ?_
            refine q_iconst rfl rfl ?_
            refine q_sipush rfl rfl ?_
            refine q_iload_n rfl rfl rfl ?_
            refine q_imul rfl rfl (q_tn (z := 0) rfl ?_)
            refine q_iload_n rfl rfl rfl ?_
            refine q_iadd rfl rfl (q_tn (z := 0) rfl ?_)
            refine q_imul rfl rfl (q_tn (z := 0) rfl ?_)
            refine q_iload rfl rfl rfl ?_
            refine q_iadd rfl rfl (q_tn (z := 2) rfl ?_)
            refine q_iald rfl rfl (by decide) rfl (by decide) (q_tn (z := (-1)) rfl ?_)
            refine q_ifge rfl rfl (fun c602 => absurd c602 (by decide)) (fun c602 => ?_)
            refine q_iconst rfl rfl ?_
            refine q_goto rfl ?_
            refine q_ist3n rfl rfl rfl rfl ?_
            refine q_icc4 (z := 3) rfl rfl rfl rfl rfl ?_
            refine q_goto rfl ?_
            refine q_iload rfl rfl rfl ?_
            refine q_iconst rfl rfl ?_
            refine q_icge rfl rfl (fun c603 => ?_) (fun c603 => absurd (by decide) c603)
            refine q_aload_n rfl rfl rfl ?_
            refine q_iload_n rfl rfl rfl ?_
            refine q_iload_n rfl rfl rfl ?_
            refine q_cV2v rfl rfl (Or.inl rfl) rfl rfl rfl (by decide) rfl ⟨rfl, rfl⟩ rfl (fun K' hK' => l_sa (R := 0) (by decide) rfl (by decide) rfl rfl rfl rfl rfl hK') ?_
            refine q_iload_n rfl rfl rfl ?_
            refine q_ifeq rfl rfl (fun c604 => absurd c604 (by decide)) (fun c604 => ?_)
            refine q_aload_n rfl rfl rfl ?_
            refine q_nV0 rfl rfl (Or.inl rfl) rfl rfl rfl (by decide) rfl ⟨rfl, rfl⟩ rfl ?_
            change PQ _ _ _ mm_X12_isEnd 0 [.ref 46, pm_un, pm_un] [] _ _ 0 0 _
            refine q_iconst rfl rfl ?_
            refine q_ist1n rfl rfl rfl rfl ?_
            refine q_iconst rfl rfl ?_
            refine q_ist2n rfl rfl rfl rfl ?_
            refine q_iload_n rfl rfl rfl ?_
            refine q_aload_n rfl rfl rfl ?_
            refine q_getf rfl rfl (by decide) rfl rfl ?_
            refine q_icge rfl rfl (fun c605 => absurd c605 (by decide)) (fun c605 => ?_)
            refine q_iload_n rfl rfl rfl ?_
            refine q_ifeq rfl rfl (fun c606 => absurd c606 (by decide)) (fun c606 => ?_)
            refine q_aload_n rfl rfl rfl ?_
            refine q_iload_n rfl rfl rfl ?_
            refine q_nV1 rfl rfl (Or.inl rfl) rfl rfl rfl (by decide) rfl ⟨rfl, rfl⟩ rfl ?_
            change PQ _ _ _ mm_X12_isOver 0 [.ref 46, .int 0] [] _ _ 0 0 _
            refine q_aload_n rfl rfl rfl ?_
            refine q_getf rfl rfl (by decide) rfl rfl ?_
            refine q_iconst rfl rfl ?_
            refine q_iload_n rfl rfl rfl ?_
            refine q_imul rfl rfl (q_tn (z := 0) rfl ?_)
            refine q_iald rfl rfl (by decide) rfl (by decide) (q_tn (z := 10) rfl ?_)
            refine q_bipush rfl rfl ?_
            refine q_iclt rfl rfl (fun c607 => absurd c607 (by decide)) (fun c607 => ?_)
            refine q_iconst rfl rfl ?_
            refine q_goto rfl ?_
            refine q_iret rfl rfl rfl ?_
            refine ⟨_, rfl, ?_⟩
            refine q_ifeq rfl rfl (fun c608 => absurd c608 (by decide)) (fun c608 => ?_)
            refine q_iconst rfl rfl ?_
            refine q_goto rfl ?_
            refine q_ist1n rfl rfl rfl rfl ?_
            refine q_icc2 (z := 1) rfl rfl rfl rfl rfl ?_
            refine q_goto rfl ?_
            refine q_iload_n rfl rfl rfl ?_
            refine q_aload_n rfl rfl rfl ?_
            refine q_getf rfl rfl (by decide) rfl rfl ?_
            refine q_icge rfl rfl (fun c609 => ?_) (fun c609 => absurd (by decide) c609)
            refine q_iload_n rfl rfl rfl ?_
            refine q_iret rfl rfl rfl ?_
            refine ⟨_, rfl, ?_⟩
            refine q_ifne rfl rfl (fun c610 => absurd c610 (by decide)) (fun c610 => ?_)
            refine q_iconst rfl rfl ?_
            refine q_iret rfl rfl rfl ?_
            refine ⟨_, rfl, ?_⟩
            refine q_iret rfl rfl rfl ?_
            refine ⟨_, rfl, ?_⟩
            refine q_ifeq rfl rfl (fun c611 => ?_) (fun c611 => absurd (by decide) c611)
            refine q_iconst rfl rfl ?_
            refine q_iadd rfl rfl (q_tn (z := 0) rfl ?_)
            refine q_ist2n rfl rfl rfl rfl ?_
            refine q_icc3 (z := 1) rfl rfl rfl rfl rfl ?_
            refine q_goto rfl ?_
            refine q_iload_n rfl rfl rfl ?_
            refine q_aload_n rfl rfl rfl ?_
            refine q_getf rfl rfl (by decide) rfl rfl ?_
            refine q_iconst rfl rfl ?_
            refine q_iald rfl rfl (by decide) rfl (by decide) (q_tn (z := 1) rfl ?_)
            refine q_icge rfl rfl (fun c612 => ?_) (fun c612 => absurd (by decide) c612)
            refine q_iload_n rfl rfl rfl ?_
            refine q_iret rfl rfl trivial ?_
            refine ⟨_, rfl, ?_⟩
            refine q_iceq rfl rfl (fun c613 => ?_) (fun c613 => absurd (by decide) c613)
            refine q_icc4 (z := 6) rfl rfl rfl rfl rfl ?_
            refine q_goto rfl ?_
            refine q_iload rfl rfl rfl ?_
            refine q_aload_nF rfl rfl rfl ?_
            refine q_alenX (x := 6) rfl rfl rfl ?_
            refine q_bipush rfl rfl ?_
            refine q_isub rfl rfl (q_tn (z := 0) rfl ?_)
            refine q_icgt rfl rfl (fun c614 => ?_) (fun c614 => absurd (by decide) c614)
            refine q_iconst rfl rfl ?_
            refine q_iret rfl rfl rfl ?_
            exact hK _ _
end TR
