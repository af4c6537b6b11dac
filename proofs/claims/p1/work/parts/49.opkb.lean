section TR
variable {EX : pm_M → pm_C → (pm_C → Prop) → Prop} {xs : Nat → Int32} {K : q_K}
set_option maxHeartbeats 40000000 in
set_option maxRecDepth 20000 in
theorem t_op22 {S : Nat → pm_E} (hW : FW S) {x1 x2 x3 x4 x5 : Int32} (hx1 : xs 1 = x1) (hx2 : xs 2 = x2) (hx3 : xs 3 = x3) (hx4 : xs 4 = x4) (hx5 : xs 5 = x5) (hK : ∀ S n, K (some (.int 1)) S n) : PQ (j_SL 6) (j_SV xs) j_EX mm_L_law 954 [.float 5, .ref 0, .ref 46, .ref 81, .int 0, pm_un, pm_un, pm_un] [] S 82 82 190091 K := by
  refine q_aload_n rfl rfl rfl ?_
  refine q_nV0 rfl rfl (Or.inl rfl) rfl rfl rfl (by decide) (FW_0 S hW) ⟨rfl, rfl⟩ rfl ?_
  change PQ _ _ _ mm_X11_next 0 [.ref 0] [] _ _ 0 0 _
  refine t_x22 hW (fun T hM => ?_)
  refine ⟨_, rfl, ?_⟩
  refine q_aload_n rfl rfl rfl ?_
  refine q_nV0 rfl rfl (Or.inl rfl) rfl rfl rfl (by decide) ((FM_46 hM).trans (FW_46 S hW)) ⟨rfl, rfl⟩ rfl ?_
  change PQ _ _ _ mm_X12_next 0 [.ref 46, pm_un, pm_un, pm_un, pm_un, pm_un, pm_un, pm_un] [] _ _ 0 0 _
  refine q_aload_n rfl rfl rfl ?_
  refine q_nV0 rfl rfl (Or.inl rfl) rfl rfl rfl (by decide) ((FM_46 hM).trans (FW_46 S hW)) ⟨rfl, rfl⟩ rfl ?_
  change PQ _ _ _ mm_X12_anySpent 0 [.ref 46, pm_un, pm_un] [] _ _ 0 0 _
  refine q_iconst rfl rfl ?_
  refine q_ist1n rfl rfl rfl rfl ?_
  refine q_iconst rfl rfl ?_
  refine q_ist2n rfl rfl rfl rfl ?_
  refine q_iload_n rfl rfl rfl ?_
  refine q_iconst rfl rfl ?_
  refine q_icge rfl rfl (fun c1 => absurd c1 (by decide)) (fun c1 => ?_)
  refine q_aload_n rfl rfl rfl ?_
  refine q_iload_n rfl rfl rfl ?_
  refine q_nV1 rfl rfl (Or.inl rfl) rfl rfl rfl (by decide) ((FM_46 hM).trans (FW_46 S hW)) ⟨rfl, rfl⟩ rfl ?_
  change PQ _ _ _ mm_X12_isSpent 0 [.ref 46, .int 0, pm_un, pm_un, pm_un] [] _ _ 0 0 _
  refine q_iload_n rfl rfl rfl ?_
  refine q_ifne rfl rfl (fun c2 => ?_) (fun c2 => absurd (by decide) c2)
  refine q_iconst rfl rfl ?_
  refine q_goto rfl ?_
  refine q_ist2n rfl rfl rfl rfl ?_
  refine q_aload_n rfl rfl rfl ?_
  refine q_iconst rfl rfl ?_
  refine q_putf rfl rfl (by decide) ((FM_46 hM).trans (FW_46 S hW)) (by decide) rfl trivial ?_
  refine q_aload_n rfl rfl rfl ?_
  refine q_getf rfl rfl (by decide) rfl rfl ?_
  refine q_iload_n rfl rfl rfl ?_
  refine q_iald rfl rfl (by decide) ((FM_62 hM).trans (FW_62 S hW)) (by decide) (q_tn (z := 0) rfl ?_)
  refine q_ifeq rfl rfl (fun c3 => ?_) (fun c3 => absurd (by decide) c3)
  refine q_aload_n rfl rfl rfl ?_
  refine q_getf rfl rfl (by decide) rfl rfl ?_
  refine q_iload_n rfl rfl rfl ?_
  refine q_aload_n rfl rfl rfl ?_
  refine q_iload_n rfl rfl rfl ?_
  refine q_iload_n rfl rfl rfl ?_
  refine q_nV2 rfl rfl (Or.inl rfl) rfl rfl rfl (by decide) rfl ⟨rfl, rfl⟩ rfl ?_
  change PQ _ _ _ mm_X12_explore 0 [.ref 46, .int 0, .int 0, pm_un, pm_un, pm_un, pm_un, pm_un] [] _ _ 0 0 _
  refine q_iconst rfl rfl ?_
  refine q_ist3n rfl rfl rfl rfl ?_
  refine l_net (R := 0) (by decide) rfl (by decide) rfl rfl ((FM_61 hM).trans (FW_61 S hW)) ?_
  refine q_aload_n rfl rfl rfl ?_
  refine q_getf rfl rfl (by decide) rfl rfl ?_
  refine q_iload_n rfl rfl rfl ?_
  refine q_iconst rfl rfl ?_
  refine q_iast rfl rfl (by decide) ((FM_60 hM).trans (FW_60 S hW)) (by decide) ?_
  refine q_aload_n rfl rfl rfl ?_
  refine q_nV0v rfl rfl (Or.inl rfl) rfl rfl rfl (by decide) rfl ⟨rfl, rfl⟩ rfl ?_
  change PQ _ _ _ mm_X12_firstState 0 [.ref 46, pm_un] [] _ _ 0 0 _
  refine q_iconst rfl rfl ?_
  refine q_ist1n rfl rfl rfl rfl ?_
  refine q_iload_n rfl rfl rfl ?_
  refine q_bipush rfl rfl ?_
  refine q_icge rfl rfl (fun c4 => absurd c4 (by decide)) (fun c4 => ?_)
  refine q_aload_n rfl rfl rfl ?_
  refine q_getf rfl rfl (by decide) rfl rfl ?_
  refine q_iload_n rfl rfl rfl ?_
  refine q_iconst rfl rfl ?_
  refine q_iast rfl rfl (by decide) ((FM_52 hM).trans (FW_52 S hW)) (by decide) ?_
  refine q_icc1 (z := 1) rfl rfl rfl rfl rfl ?_
  refine q_goto rfl ?_
  refine q_iload_n rfl rfl rfl ?_
  refine q_bipush rfl rfl ?_
  refine q_icge rfl rfl (fun c5 => absurd c5 (by decide)) (fun c5 => ?_)
  refine q_aload_n rfl rfl rfl ?_
  refine q_getf rfl rfl (by decide) rfl rfl ?_
  refine q_iload_n rfl rfl rfl ?_
  refine q_iconst rfl rfl ?_
  refine q_iast rfl rfl (by decide) rfl (by decide) ?_
  refine q_icc1 (z := 2) rfl rfl rfl rfl rfl ?_
  refine q_goto rfl ?_
  refine q_iload_n rfl rfl rfl ?_
  refine q_bipush rfl rfl ?_
  refine q_icge rfl rfl (fun c6 => absurd c6 (by decide)) (fun c6 => ?_)
  refine q_aload_n rfl rfl rfl ?_
  refine q_getf rfl rfl (by decide) rfl rfl ?_
  refine q_iload_n rfl rfl rfl ?_
  refine q_iconst rfl rfl ?_
  refine q_iast rfl rfl (by decide) rfl (by decide) ?_
  refine q_icc1 (z := 3) rfl rfl rfl rfl rfl ?_
  refine q_goto rfl ?_
  refine q_iload_n rfl rfl rfl ?_
  refine q_bipush rfl rfl ?_
  refine q_icge rfl rfl (fun c7 => absurd c7 (by decide)) (fun c7 => ?_)
  refine q_aload_n rfl rfl rfl ?_
  refine q_getf rfl rfl (by decide) rfl rfl ?_
  refine q_iload_n rfl rfl rfl ?_
  refine q_iconst rfl rfl ?_
  refine q_iast rfl rfl (by decide) rfl (by decide) ?_
  refine q_icc1 (z := 4) rfl rfl rfl rfl rfl ?_
  refine q_goto rfl ?_
  refine q_iload_n rfl rfl rfl ?_
  refine q_bipush rfl rfl ?_
  refine q_icge rfl rfl (fun c8 => absurd c8 (by decide)) (fun c8 => ?_)
  refine q_aload_n rfl rfl rfl ?_
  refine q_getf rfl rfl (by decide) rfl rfl ?_
  refine q_iload_n rfl rfl rfl ?_
  refine q_iconst rfl rfl ?_
  refine q_iast rfl rfl (by decide) rfl (by decide) ?_
  refine q_icc1 (z := 5) rfl rfl rfl rfl rfl ?_
  refine q_goto rfl ?_
  refine q_iload_n rfl rfl rfl ?_
  refine q_bipush rfl rfl ?_
  refine q_icge rfl rfl (fun c9 => absurd c9 (by decide)) (fun c9 => ?_)
  refine q_aload_n rfl rfl rfl ?_
  refine q_getf rfl rfl (by decide) rfl rfl ?_
  refine q_iload_n rfl rfl rfl ?_
  refine q_iconst rfl rfl ?_
  refine q_iast rfl rfl (by decide) rfl (by decide) ?_
  refine q_icc1 (z := 6) rfl rfl rfl rfl rfl ?_
  refine q_goto rfl ?_
  refine q_iload_n rfl rfl rfl ?_
  refine q_bipush rfl rfl ?_
  refine q_icge rfl rfl (fun c10 => absurd c10 (by decide)) (fun c10 => ?_)
  refine q_aload_n rfl rfl rfl ?_
  refine q_getf rfl rfl (by decide) rfl rfl ?_
  refine q_iload_n rfl rfl rfl ?_
  refine q_iconst rfl rfl ?_
  refine q_iast rfl rfl (by decide) rfl (by decide) ?_
  refine q_icc1 (z := 7) rfl rfl rfl rfl rfl ?_
  refine q_goto rfl ?_
  refine q_iload_n rfl rfl rfl ?_
  refine q_bipush rfl rfl ?_
  refine q_icge rfl rfl (fun c11 => absurd c11 (by decide)) (fun c11 => ?_)
  refine q_aload_n rfl rfl rfl ?_
  refine q_getf rfl rfl (by decide) rfl rfl ?_
  refine q_iload_n rfl rfl rfl ?_
  refine q_iconst rfl rfl ?_
  refine q_iast rfl rfl (by decide) rfl (by decide) ?_
  refine q_icc1 (z := 8) rfl rfl rfl rfl rfl ?_
  refine q_goto rfl ?_
  refine q_iload_n rfl rfl rfl ?_
  refine q_bipush rfl rfl ?_
  refine q_icge rfl rfl (fun c12 => absurd c12 (by decide)) (fun c12 => ?_)
  refine q_aload_n rfl rfl rfl ?_
  refine q_getf rfl rfl (by decide) rfl rfl ?_
  refine q_iload_n rfl rfl rfl ?_
  refine q_iconst rfl rfl ?_
  refine q_iast rfl rfl (by decide) rfl (by decide) ?_
  refine q_icc1 (z := 9) rfl rfl rfl rfl rfl ?_
  refine q_goto rfl ?_
  refine q_iload_n rfl rfl rfl ?_
  refine q_bipush rfl rfl ?_
  refine q_icge rfl rfl (fun c13 => absurd c13 (by decide)) (fun c13 => ?_)
  refine q_aload_n rfl rfl rfl ?_
  refine q_getf rfl rfl (by decide) rfl rfl ?_
  refine q_iload_n rfl rfl rfl ?_
  refine q_iconst rfl rfl ?_
  refine q_iast rfl rfl (by decide) rfl (by decide) ?_
  refine q_icc1 (z := 10) rfl rfl rfl rfl rfl ?_
  refine q_goto rfl ?_
  refine q_iload_n rfl rfl rfl ?_
  refine q_bipush rfl rfl ?_
  refine q_icge rfl rfl (fun c14 => absurd c14 (by decide)) (fun c14 => ?_)
  refine q_aload_n rfl rfl rfl ?_
  refine q_getf rfl rfl (by decide) rfl rfl ?_
  refine q_iload_n rfl rfl rfl ?_
  refine q_iconst rfl rfl ?_
  refine q_iast rfl rfl (by decide) rfl (by decide) ?_
  refine q_icc1 (z := 11) rfl rfl rfl rfl rfl ?_
  refine q_goto rfl ?_
  refine q_iload_n rfl rfl rfl ?_
  refine q_bipush rfl rfl ?_
  refine q_icge rfl rfl (fun c15 => absurd c15 (by decide)) (fun c15 => ?_)
  refine q_aload_n rfl rfl rfl ?_
  refine q_getf rfl rfl (by decide) rfl rfl ?_
  refine q_iload_n rfl rfl rfl ?_
  refine q_iconst rfl rfl ?_
  refine q_iast rfl rfl (by decide) rfl (by decide) ?_
  refine q_icc1 (z := 12) rfl rfl rfl rfl rfl ?_
  refine q_goto rfl ?_
  refine q_iload_n rfl rfl rfl ?_
  refine q_bipush rfl rfl ?_
  refine q_icge rfl rfl (fun c16 => absurd c16 (by decide)) (fun c16 => ?_)
  refine q_aload_n rfl rfl rfl ?_
  refine q_getf rfl rfl (by decide) rfl rfl ?_
  refine q_iload_n rfl rfl rfl ?_
  refine q_iconst rfl rfl ?_
  refine q_iast rfl rfl (by decide) rfl (by decide) ?_
  refine q_icc1 (z := 13) rfl rfl rfl rfl rfl ?_
  refine q_goto rfl ?_
  refine q_iload_n rfl rfl rfl ?_
  refine q_bipush rfl rfl ?_
  refine q_icge rfl rfl (fun c17 => absurd c17 (by decide)) (fun c17 => ?_)
  refine q_aload_n rfl rfl rfl ?_
  refine q_getf rfl rfl (by decide) rfl rfl ?_
  refine q_iload_n rfl rfl rfl ?_
  refine q_iconst rfl rfl ?_
  refine q_iast rfl rfl (by decide) rfl (by decide) ?_
  refine q_icc1 (z := 14) rfl rfl rfl rfl rfl ?_
  refine q_goto rfl ?_
  refine q_iload_n rfl rfl rfl ?_
  refine q_bipush rfl rfl ?_
  refine q_icge rfl rfl (fun c18 => absurd c18 (by decide)) (fun c18 => ?_)
  refine q_aload_n rfl rfl rfl ?_
  refine q_getf rfl rfl (by decide) rfl rfl ?_
  refine q_iload_n rfl rfl rfl ?_
  refine q_iconst rfl rfl ?_
  refine q_iast rfl rfl (by decide) rfl (by decide) ?_
  refine q_icc1 (z := 15) rfl rfl rfl rfl rfl ?_
  refine q_goto rfl ?_
  refine q_iload_n rfl rfl rfl ?_
  refine q_bipush rfl rfl ?_
  refine q_icge rfl rfl (fun c19 => absurd c19 (by decide)) (fun c19 => ?_)
  refine q_aload_n rfl rfl rfl ?_
  refine q_getf rfl rfl (by decide) rfl rfl ?_
  refine q_iload_n rfl rfl rfl ?_
  refine q_iconst rfl rfl ?_
  refine q_iast rfl rfl (by decide) rfl (by decide) ?_
  refine q_icc1 (z := 16) rfl rfl rfl rfl rfl ?_
  refine q_goto rfl ?_
  refine q_iload_n rfl rfl rfl ?_
  refine q_bipush rfl rfl ?_
  refine q_icge rfl rfl (fun c20 => absurd c20 (by decide)) (fun c20 => ?_)
  refine q_aload_n rfl rfl rfl ?_
  refine q_getf rfl rfl (by decide) rfl rfl ?_
  refine q_iload_n rfl rfl rfl ?_
  refine q_iconst rfl rfl ?_
  refine q_iast rfl rfl (by decide) rfl (by decide) ?_
  refine q_icc1 (z := 17) rfl rfl rfl rfl rfl ?_
  refine q_goto rfl ?_
  refine q_iload_n rfl rfl rfl ?_
  refine q_bipush rfl rfl ?_
  refine q_icge rfl rfl (fun c21 => absurd c21 (by decide)) (fun c21 => ?_)
  refine q_aload_n rfl rfl rfl ?_
  refine q_getf rfl rfl (by decide) rfl rfl ?_
  refine q_iload_n rfl rfl rfl ?_
  refine q_iconst rfl rfl ?_
  refine q_iast rfl rfl (by decide) rfl (by decide) ?_
  refine q_icc1 (z := 18) rfl rfl rfl rfl rfl ?_
  refine q_goto rfl ?_
  refine q_iload_n rfl rfl rfl ?_
  refine q_bipush rfl rfl ?_
  refine q_icge rfl rfl (fun c22 => absurd c22 (by decide)) (fun c22 => ?_)
  refine q_aload_n rfl rfl rfl ?_
  refine q_getf rfl rfl (by decide) rfl rfl ?_
  refine q_iload_n rfl rfl rfl ?_
  refine q_iconst rfl rfl ?_
  refine q_iast rfl rfl (by decide) rfl (by decide) ?_
  refine q_icc1 (z := 19) rfl rfl rfl rfl rfl ?_
  refine q_goto rfl ?_
  refine q_iload_n rfl rfl rfl ?_
  refine q_bipush rfl rfl ?_
  refine q_icge rfl rfl (fun c23 => absurd c23 (by decide)) (fun c23 => ?_)
  refine q_aload_n rfl rfl rfl ?_
  refine q_getf rfl rfl (by decide) rfl rfl ?_
  refine q_iload_n rfl rfl rfl ?_
  refine q_iconst rfl rfl ?_
  refine q_iast rfl rfl (by decide) rfl (by decide) ?_
  refine q_icc1 (z := 20) rfl rfl rfl rfl rfl ?_
  refine q_goto rfl ?_
  refine q_iload_n rfl rfl rfl ?_
  refine q_bipush rfl rfl ?_
  refine q_icge rfl rfl (fun c24 => ?_) (fun c24 => absurd (by decide) c24)
  refine q_iconst rfl rfl ?_
  refine q_ist1n rfl rfl rfl rfl ?_
  refine q_iload_n rfl rfl rfl ?_
  refine q_aload_n rfl rfl rfl ?_
  refine q_getf rfl rfl (by decide) rfl rfl ?_
  refine q_icge rfl rfl (fun c25 => absurd c25 (by decide)) (fun c25 => ?_)
  refine q_aload_n rfl rfl rfl ?_
  refine q_getf rfl rfl (by decide) rfl rfl ?_
  refine q_iconst rfl rfl ?_
  refine q_iload_n rfl rfl rfl ?_
  refine q_imul rfl rfl (q_tn (z := 0) rfl ?_)
  refine q_aload_n rfl rfl rfl ?_
  refine q_getf rfl rfl (by decide) rfl rfl ?_
  refine q_aload_n rfl rfl rfl ?_
  refine q_getf rfl rfl (by decide) rfl rfl ?_
  refine q_iload_n rfl rfl rfl ?_
  refine q_iadd rfl rfl (q_tn (z := 0) rfl ?_)
  refine q_iald rfl rfl (by decide) ((FM_47 hM).trans (FW_47 S hW)) (by decide) (q_tn (z := 0) rfl ?_)
  refine q_ifne rfl rfl (fun c26 => ?_) (fun c26 => absurd (by decide) c26)
  refine q_bipush rfl rfl ?_
  refine q_goto rfl ?_
  refine q_iast rfl rfl (by decide) rfl (by decide) ?_
  refine q_icc1 (z := 1) rfl rfl rfl rfl rfl ?_
  refine q_goto rfl ?_
  refine q_iload_n rfl rfl rfl ?_
  refine q_aload_n rfl rfl rfl ?_
  refine q_getf rfl rfl (by decide) rfl rfl ?_
  refine q_icge rfl rfl (fun c27 => ?_) (fun c27 => absurd (by decide) c27)
  refine q_iconst rfl rfl ?_
  refine q_ist1n rfl rfl rfl rfl ?_
  refine q_iload_n rfl rfl rfl ?_
  refine q_iconst rfl rfl ?_
  refine q_icge rfl rfl (fun c28 => absurd c28 (by decide)) (fun c28 => ?_)
  refine q_aload_n rfl rfl rfl ?_
  refine q_getf rfl rfl (by decide) rfl rfl ?_
  refine q_bipush rfl rfl ?_
  refine q_iload_n rfl rfl rfl ?_
  refine q_iadd rfl rfl (q_tn (z := 12) rfl ?_)
  refine q_aload_n rfl rfl rfl ?_
  refine q_getf rfl rfl (by decide) rfl rfl ?_
  refine q_iload_n rfl rfl rfl ?_
  refine q_iald rfl rfl (by decide) ((FM_51 hM).trans (FW_51 S hW)) (by decide) (q_tn (z := 0) rfl ?_)
  refine q_iast rfl rfl (by decide) rfl (by decide) ?_
  refine q_icc1 (z := 1) rfl rfl rfl rfl rfl ?_
  refine q_goto rfl ?_
  refine q_iload_n rfl rfl rfl ?_
  refine q_iconst rfl rfl ?_
  refine q_icge rfl rfl (fun c29 => absurd c29 (by decide)) (fun c29 => ?_)
  refine q_aload_n rfl rfl rfl ?_
  refine q_getf rfl rfl (by decide) rfl rfl ?_
  refine q_bipush rfl rfl ?_
  refine q_iload_n rfl rfl rfl ?_
  refine q_iadd rfl rfl (q_tn (z := 13) rfl ?_)
  refine q_aload_n rfl rfl rfl ?_
  refine q_getf rfl rfl (by decide) rfl rfl ?_
  refine q_iload_n rfl rfl rfl ?_
  refine q_iald rfl rfl (by decide) ((FM_51 hM).trans (FW_51 S hW)) (by decide) (q_tn (z := 0) rfl ?_)
  refine q_iast rfl rfl (by decide) rfl (by decide) ?_
  refine q_icc1 (z := 2) rfl rfl rfl rfl rfl ?_
  refine q_goto rfl ?_
  refine q_iload_n rfl rfl rfl ?_
  refine q_iconst rfl rfl ?_
  refine q_icge rfl rfl (fun c30 => absurd c30 (by decide)) (fun c30 => ?_)
  refine q_aload_n rfl rfl rfl ?_
  refine q_getf rfl rfl (by decide) rfl rfl ?_
  refine q_bipush rfl rfl ?_
  refine q_iload_n rfl rfl rfl ?_
  refine q_iadd rfl rfl (q_tn (z := 14) rfl ?_)
  refine q_aload_n rfl rfl rfl ?_
  refine q_getf rfl rfl (by decide) rfl rfl ?_
  refine q_iload_n rfl rfl rfl ?_
  refine q_iald rfl rfl (by decide) ((FM_51 hM).trans (FW_51 S hW)) (by decide) (q_tn (z := 0) rfl ?_)
  refine q_iast rfl rfl (by decide) rfl (by decide) ?_
  refine q_icc1 (z := 3) rfl rfl rfl rfl rfl ?_
  refine q_goto rfl ?_
  refine q_iload_n rfl rfl rfl ?_
  refine q_iconst rfl rfl ?_
  refine q_icge rfl rfl (fun c31 => absurd c31 (by decide)) (fun c31 => ?_)
  refine q_aload_n rfl rfl rfl ?_
  refine q_getf rfl rfl (by decide) rfl rfl ?_
  refine q_bipush rfl rfl ?_
  refine q_iload_n rfl rfl rfl ?_
  refine q_iadd rfl rfl (q_tn (z := 15) rfl ?_)
  refine q_aload_n rfl rfl rfl ?_
  refine q_getf rfl rfl (by decide) rfl rfl ?_
  refine q_iload_n rfl rfl rfl ?_
  refine q_iald rfl rfl (by decide) ((FM_51 hM).trans (FW_51 S hW)) (by decide) (q_tn (z := 0) rfl ?_)
  refine q_iast rfl rfl (by decide) rfl (by decide) ?_
  refine q_icc1 (z := 4) rfl rfl rfl rfl rfl ?_
  refine q_goto rfl ?_
  refine q_iload_n rfl rfl rfl ?_
  refine q_iconst rfl rfl ?_
  refine q_icge rfl rfl (fun c32 => ?_) (fun c32 => absurd (by decide) c32)
  refine q_ret rfl rfl ?_
  refine ⟨rfl, ?_⟩
  refine q_iconst rfl rfl ?_
  refine q_ist3n rfl rfl rfl rfl ?_
  refine q_iload_n rfl rfl rfl ?_
  refine q_bipush rfl rfl ?_
  refine q_icge rfl rfl (fun c33 => absurd c33 (by decide)) (fun c33 => ?_)
  refine q_aload_n rfl rfl rfl ?_
  refine q_getf rfl rfl (by decide) rfl rfl ?_
  refine q_iload_n rfl rfl rfl ?_
  refine q_aload_n rfl rfl rfl ?_
  refine q_getf rfl rfl (by decide) rfl rfl ?_
  refine q_iload_n rfl rfl rfl ?_
  refine q_iald rfl rfl (by decide) rfl (by decide) (q_tn (z := 10) rfl ?_)
  refine q_iast rfl rfl (by decide) ((FM_53 hM).trans (FW_53 S hW)) (by decide) ?_
  refine q_icc3 (z := 1) rfl rfl rfl rfl rfl ?_
  refine q_goto rfl ?_
  refine q_iload_n rfl rfl rfl ?_
  refine q_bipush rfl rfl ?_
  refine q_icge rfl rfl (fun c34 => absurd c34 (by decide)) (fun c34 => ?_)
  refine q_aload_n rfl rfl rfl ?_
  refine q_getf rfl rfl (by decide) rfl rfl ?_
  refine q_iload_n rfl rfl rfl ?_
  refine q_aload_n rfl rfl rfl ?_
  refine q_getf rfl rfl (by decide) rfl rfl ?_
  refine q_iload_n rfl rfl rfl ?_
  refine q_iald rfl rfl (by decide) rfl (by decide) (q_tn (z := 0) rfl ?_)
  refine q_iast rfl rfl (by decide) rfl (by decide) ?_
  refine q_icc3 (z := 2) rfl rfl rfl rfl rfl ?_
  refine q_goto rfl ?_
  refine q_iload_n rfl rfl rfl ?_
  refine q_bipush rfl rfl ?_
  refine q_icge rfl rfl (fun c35 => absurd c35 (by decide)) (fun c35 => ?_)
  refine q_aload_n rfl rfl rfl ?_
  refine q_getf rfl rfl (by decide) rfl rfl ?_
  refine q_iload_n rfl rfl rfl ?_
  refine q_aload_n rfl rfl rfl ?_
  refine q_getf rfl rfl (by decide) rfl rfl ?_
  refine q_iload_n rfl rfl rfl ?_
  refine q_iald rfl rfl (by decide) rfl (by decide) (q_tn (z := 0) rfl ?_)
  refine q_iast rfl rfl (by decide) rfl (by decide) ?_
  refine q_icc3 (z := 3) rfl rfl rfl rfl rfl ?_
  refine q_goto rfl ?_
  refine q_iload_n rfl rfl rfl ?_
  refine q_bipush rfl rfl ?_
  refine q_icge rfl rfl (fun c36 => absurd c36 (by decide)) (fun c36 => ?_)
  refine q_aload_n rfl rfl rfl ?_
  refine q_getf rfl rfl (by decide) rfl rfl ?_
  refine q_iload_n rfl rfl rfl ?_
  refine q_aload_n rfl rfl rfl ?_
  refine q_getf rfl rfl (by decide) rfl rfl ?_
  refine q_iload_n rfl rfl rfl ?_
  refine q_iald rfl rfl (by decide) rfl (by decide) (q_tn (z := 0) rfl ?_)
  refine q_iast rfl rfl (by decide) rfl (by decide) ?_
  refine q_icc3 (z := 4) rfl rfl rfl rfl rfl ?_
  refine q_goto rfl ?_
  refine q_iload_n rfl rfl rfl ?_
  refine q_bipush rfl rfl ?_
  refine q_icge rfl rfl (fun c37 => absurd c37 (by decide)) (fun c37 => ?_)
  refine q_aload_n rfl rfl rfl ?_
  refine q_getf rfl rfl (by decide) rfl rfl ?_
  refine q_iload_n rfl rfl rfl ?_
  refine q_aload_n rfl rfl rfl ?_
  refine q_getf rfl rfl (by decide) rfl rfl ?_
  refine q_iload_n rfl rfl rfl ?_
  refine q_iald rfl rfl (by decide) rfl (by decide) (q_tn (z := 0) rfl ?_)
  refine q_iast rfl rfl (by decide) rfl (by decide) ?_
  refine q_icc3 (z := 5) rfl rfl rfl rfl rfl ?_
  refine q_goto rfl ?_
  refine q_iload_n rfl rfl rfl ?_
  refine q_bipush rfl rfl ?_
  refine q_icge rfl rfl (fun c38 => absurd c38 (by decide)) (fun c38 => ?_)
  refine q_aload_n rfl rfl rfl ?_
  refine q_getf rfl rfl (by decide) rfl rfl ?_
  refine q_iload_n rfl rfl rfl ?_
  refine q_aload_n rfl rfl rfl ?_
  refine q_getf rfl rfl (by decide) rfl rfl ?_
  refine q_iload_n rfl rfl rfl ?_
  refine q_iald rfl rfl (by decide) rfl (by decide) (q_tn (z := 0) rfl ?_)
  refine q_iast rfl rfl (by decide) rfl (by decide) ?_
  refine q_icc3 (z := 6) rfl rfl rfl rfl rfl ?_
  refine q_goto rfl ?_
  refine q_iload_n rfl rfl rfl ?_
  refine q_bipush rfl rfl ?_
  refine q_icge rfl rfl (fun c39 => absurd c39 (by decide)) (fun c39 => ?_)
  refine q_aload_n rfl rfl rfl ?_
  refine q_getf rfl rfl (by decide) rfl rfl ?_
  refine q_iload_n rfl rfl rfl ?_
  refine q_aload_n rfl rfl rfl ?_
  refine q_getf rfl rfl (by decide) rfl rfl ?_
  refine q_iload_n rfl rfl rfl ?_
  refine q_iald rfl rfl (by decide) rfl (by decide) (q_tn (z := 0) rfl ?_)
  refine q_iast rfl rfl (by decide) rfl (by decide) ?_
  refine q_icc3 (z := 7) rfl rfl rfl rfl rfl ?_
  refine q_goto rfl ?_
  refine q_iload_n rfl rfl rfl ?_
  refine q_bipush rfl rfl ?_
  refine q_icge rfl rfl (fun c40 => absurd c40 (by decide)) (fun c40 => ?_)
  refine q_aload_n rfl rfl rfl ?_
  refine q_getf rfl rfl (by decide) rfl rfl ?_
  refine q_iload_n rfl rfl rfl ?_
  refine q_aload_n rfl rfl rfl ?_
  refine q_getf rfl rfl (by decide) rfl rfl ?_
  refine q_iload_n rfl rfl rfl ?_
  refine q_iald rfl rfl (by decide) rfl (by decide) (q_tn (z := 0) rfl ?_)
  refine q_iast rfl rfl (by decide) rfl (by decide) ?_
  refine q_icc3 (z := 8) rfl rfl rfl rfl rfl ?_
  refine q_goto rfl ?_
  refine q_iload_n rfl rfl rfl ?_
  refine q_bipush rfl rfl ?_
  refine q_icge rfl rfl (fun c41 => absurd c41 (by decide)) (fun c41 => ?_)
  refine q_aload_n rfl rfl rfl ?_
  refine q_getf rfl rfl (by decide) rfl rfl ?_
  refine q_iload_n rfl rfl rfl ?_
  refine q_aload_n rfl rfl rfl ?_
  refine q_getf rfl rfl (by decide) rfl rfl ?_
  refine q_iload_n rfl rfl rfl ?_
  refine q_iald rfl rfl (by decide) rfl (by decide) (q_tn (z := 0) rfl ?_)
  refine q_iast rfl rfl (by decide) rfl (by decide) ?_
  refine q_icc3 (z := 9) rfl rfl rfl rfl rfl ?_
  refine q_goto rfl ?_
  refine q_iload_n rfl rfl rfl ?_
  refine q_bipush rfl rfl ?_
  refine q_icge rfl rfl (fun c42 => absurd c42 (by decide)) (fun c42 => ?_)
  refine q_aload_n rfl rfl rfl ?_
  refine q_getf rfl rfl (by decide) rfl rfl ?_
  refine q_iload_n rfl rfl rfl ?_
  refine q_aload_n rfl rfl rfl ?_
  refine q_getf rfl rfl (by decide) rfl rfl ?_
  refine q_iload_n rfl rfl rfl ?_
  refine q_iald rfl rfl (by decide) rfl (by decide) (q_tn (z := 0) rfl ?_)
  refine q_iast rfl rfl (by decide) rfl (by decide) ?_
  refine q_icc3 (z := 10) rfl rfl rfl rfl rfl ?_
  refine q_goto rfl ?_
  refine q_iload_n rfl rfl rfl ?_
  refine q_bipush rfl rfl ?_
  refine q_icge rfl rfl (fun c43 => absurd c43 (by decide)) (fun c43 => ?_)
  refine q_aload_n rfl rfl rfl ?_
  refine q_getf rfl rfl (by decide) rfl rfl ?_
  refine q_iload_n rfl rfl rfl ?_
  refine q_aload_n rfl rfl rfl ?_
  refine q_getf rfl rfl (by decide) rfl rfl ?_
  refine q_iload_n rfl rfl rfl ?_
  refine q_iald rfl rfl (by decide) rfl (by decide) (q_tn (z := 0) rfl ?_)
  refine q_iast rfl rfl (by decide) rfl (by decide) ?_
  refine q_icc3 (z := 11) rfl rfl rfl rfl rfl ?_
  refine q_goto rfl ?_
  refine q_iload_n rfl rfl rfl ?_
  refine q_bipush rfl rfl ?_
  refine q_icge rfl rfl (fun c44 => absurd c44 (by decide)) (fun c44 => ?_)
  refine q_aload_n rfl rfl rfl ?_
  refine q_getf rfl rfl (by decide) rfl rfl ?_
  refine q_iload_n rfl rfl rfl ?_
  refine q_aload_n rfl rfl rfl ?_
  refine q_getf rfl rfl (by decide) rfl rfl ?_
  refine q_iload_n rfl rfl rfl ?_
  refine q_iald rfl rfl (by decide) rfl (by decide) (q_tn (z := 0) rfl ?_)
  refine q_iast rfl rfl (by decide) rfl (by decide) ?_
  refine q_icc3 (z := 12) rfl rfl rfl rfl rfl ?_
  refine q_goto rfl ?_
  refine q_iload_n rfl rfl rfl ?_
  refine q_bipush rfl rfl ?_
  refine q_icge rfl rfl (fun c45 => absurd c45 (by decide)) (fun c45 => ?_)
  refine q_aload_n rfl rfl rfl ?_
  refine q_getf rfl rfl (by decide) rfl rfl ?_
  refine q_iload_n rfl rfl rfl ?_
  refine q_aload_n rfl rfl rfl ?_
  refine q_getf rfl rfl (by decide) rfl rfl ?_
  refine q_iload_n rfl rfl rfl ?_
  refine q_iald rfl rfl (by decide) rfl (by decide) (q_tn (z := 0) rfl ?_)
  refine q_iast rfl rfl (by decide) rfl (by decide) ?_
  refine q_icc3 (z := 13) rfl rfl rfl rfl rfl ?_
  refine q_goto rfl ?_
  refine q_iload_n rfl rfl rfl ?_
  refine q_bipush rfl rfl ?_
  refine q_icge rfl rfl (fun c46 => absurd c46 (by decide)) (fun c46 => ?_)
  refine q_aload_n rfl rfl rfl ?_
  refine q_getf rfl rfl (by decide) rfl rfl ?_
  refine q_iload_n rfl rfl rfl ?_
  refine q_aload_n rfl rfl rfl ?_
  refine q_getf rfl rfl (by decide) rfl rfl ?_
  refine q_iload_n rfl rfl rfl ?_
  refine q_iald rfl rfl (by decide) rfl (by decide) (q_tn (z := 0) rfl ?_)
  refine q_iast rfl rfl (by decide) rfl (by decide) ?_
  refine q_icc3 (z := 14) rfl rfl rfl rfl rfl ?_
  refine q_goto rfl ?_
  refine q_iload_n rfl rfl rfl ?_
  refine q_bipush rfl rfl ?_
  refine q_icge rfl rfl (fun c47 => absurd c47 (by decide)) (fun c47 => ?_)
  refine q_aload_n rfl rfl rfl ?_
  refine q_getf rfl rfl (by decide) rfl rfl ?_
  refine q_iload_n rfl rfl rfl ?_
  refine q_aload_n rfl rfl rfl ?_
  refine q_getf rfl rfl (by decide) rfl rfl ?_
  refine q_iload_n rfl rfl rfl ?_
  refine q_iald rfl rfl (by decide) rfl (by decide) (q_tn (z := 0) rfl ?_)
  refine q_iast rfl rfl (by decide) rfl (by decide) ?_
  refine q_icc3 (z := 15) rfl rfl rfl rfl rfl ?_
  refine q_goto rfl ?_
  refine q_iload_n rfl rfl rfl ?_
  refine q_bipush rfl rfl ?_
  refine q_icge rfl rfl (fun c48 => absurd c48 (by decide)) (fun c48 => ?_)
  refine q_aload_n rfl rfl rfl ?_
  refine q_getf rfl rfl (by decide) rfl rfl ?_
  refine q_iload_n rfl rfl rfl ?_
  refine q_aload_n rfl rfl rfl ?_
  refine q_getf rfl rfl (by decide) rfl rfl ?_
  refine q_iload_n rfl rfl rfl ?_
  refine q_iald rfl rfl (by decide) rfl (by decide) (q_tn (z := 0) rfl ?_)
  refine q_iast rfl rfl (by decide) rfl (by decide) ?_
  refine q_icc3 (z := 16) rfl rfl rfl rfl rfl ?_
  refine q_goto rfl ?_
  refine q_iload_n rfl rfl rfl ?_
  refine q_bipush rfl rfl ?_
  refine q_icge rfl rfl (fun c49 => absurd c49 (by decide)) (fun c49 => ?_)
  refine q_aload_n rfl rfl rfl ?_
  refine q_getf rfl rfl (by decide) rfl rfl ?_
  refine q_iload_n rfl rfl rfl ?_
  refine q_aload_n rfl rfl rfl ?_
  refine q_getf rfl rfl (by decide) rfl rfl ?_
  refine q_iload_n rfl rfl rfl ?_
  refine q_iald rfl rfl (by decide) rfl (by decide) (q_tn (z := 0) rfl ?_)
  refine q_iast rfl rfl (by decide) rfl (by decide) ?_
  refine q_icc3 (z := 17) rfl rfl rfl rfl rfl ?_
  refine q_goto rfl ?_
  refine q_iload_n rfl rfl rfl ?_
  refine q_bipush rfl rfl ?_
  refine q_icge rfl rfl (fun c50 => absurd c50 (by decide)) (fun c50 => ?_)
  refine q_aload_n rfl rfl rfl ?_
  refine q_getf rfl rfl (by decide) rfl rfl ?_
  refine q_iload_n rfl rfl rfl ?_
  refine q_aload_n rfl rfl rfl ?_
  refine q_getf rfl rfl (by decide) rfl rfl ?_
  refine q_iload_n rfl rfl rfl ?_
  refine q_iald rfl rfl (by decide) rfl (by decide) (q_tn (z := 0) rfl ?_)
  refine q_iast rfl rfl (by decide) rfl (by decide) ?_
  refine q_icc3 (z := 18) rfl rfl rfl rfl rfl ?_
  refine q_goto rfl ?_
  refine q_iload_n rfl rfl rfl ?_
  refine q_bipush rfl rfl ?_
  refine q_icge rfl rfl (fun c51 => absurd c51 (by decide)) (fun c51 => ?_)
  refine q_aload_n rfl rfl rfl ?_
  refine q_getf rfl rfl (by decide) rfl rfl ?_
  refine q_iload_n rfl rfl rfl ?_
  refine q_aload_n rfl rfl rfl ?_
  refine q_getf rfl rfl (by decide) rfl rfl ?_
  refine q_iload_n rfl rfl rfl ?_
  refine q_iald rfl rfl (by decide) rfl (by decide) (q_tn (z := 0) rfl ?_)
  refine q_iast rfl rfl (by decide) rfl (by decide) ?_
  refine q_icc3 (z := 19) rfl rfl rfl rfl rfl ?_
  refine q_goto rfl ?_
  refine q_iload_n rfl rfl rfl ?_
  refine q_bipush rfl rfl ?_
  refine q_icge rfl rfl (fun c52 => absurd c52 (by decide)) (fun c52 => ?_)
  refine q_aload_n rfl rfl rfl ?_
  refine q_getf rfl rfl (by decide) rfl rfl ?_
  refine q_iload_n rfl rfl rfl ?_
  refine q_aload_n rfl rfl rfl ?_
  refine q_getf rfl rfl (by decide) rfl rfl ?_
  refine q_iload_n rfl rfl rfl ?_
  refine q_iald rfl rfl (by decide) rfl (by decide) (q_tn (z := 0) rfl ?_)
  refine q_iast rfl rfl (by decide) rfl (by decide) ?_
  refine q_icc3 (z := 20) rfl rfl rfl rfl rfl ?_
  refine q_goto rfl ?_
  refine q_iload_n rfl rfl rfl ?_
  refine q_bipush rfl rfl ?_
  refine q_icge rfl rfl (fun c53 => ?_) (fun c53 => absurd (by decide) c53)
  refine q_aload_n rfl rfl rfl ?_
  refine q_iload_n rfl rfl rfl ?_
  refine q_iconst rfl rfl ?_
  refine q_iconst rfl rfl ?_
  refine q_nV3 rfl rfl (Or.inl rfl) rfl rfl rfl (by decide) rfl ⟨rfl, rfl⟩ rfl ?_
  change PQ _ _ _ mm_X12_put 0 [.ref 46, .int 0, .int (-1), .int (-1), pm_un, pm_un, pm_un] [] _ _ 0 0 _
  refine q_aload_n rfl rfl rfl ?_
  refine q_getf rfl rfl (by decide) rfl rfl ?_
  refine q_iload_n rfl rfl rfl ?_
  refine q_iald rfl rfl (by decide) rfl (by decide) (q_tn (z := 0) rfl ?_)
  refine q_ist4 rfl rfl rfl rfl ?_
  refine q_iload rfl rfl rfl ?_
  refine q_sipush rfl rfl ?_
  refine q_icne rfl rfl (fun c54 => absurd c54 (by decide)) (fun c54 => ?_)
  refine q_sipush rfl rfl ?_
  refine q_iload_n rfl rfl rfl ?_
  refine q_imul rfl rfl (q_tn (z := 0) rfl ?_)
  refine q_iload rfl rfl rfl ?_
  refine q_iadd rfl rfl (q_tn (z := 0) rfl ?_)
  refine q_ist5 rfl rfl rfl rfl ?_
  refine q_iconst rfl rfl ?_
  refine q_ist6 rfl rfl rfl rfl ?_
  refine q_iload rfl rfl rfl ?_
  refine q_bipush rfl rfl ?_
  refine q_icge rfl rfl (fun c55 => absurd c55 (by decide)) (fun c55 => ?_)
  refine q_aload_n rfl rfl rfl ?_
  refine q_getf rfl rfl (by decide) rfl rfl ?_
  refine q_bipush rfl rfl ?_
  refine q_iload rfl rfl rfl ?_
  refine q_imul rfl rfl (q_tn (z := 0) rfl ?_)
  refine q_iload rfl rfl rfl ?_
  refine q_iadd rfl rfl (q_tn (z := 0) rfl ?_)
  refine q_aload_n rfl rfl rfl ?_
  refine q_getf rfl rfl (by decide) rfl rfl ?_
  refine q_iload rfl rfl rfl ?_
  refine q_iald rfl rfl (by decide) rfl (by decide) (q_tn (z := 10) rfl ?_)
  refine q_iast rfl rfl (by decide) ((FM_55 hM).trans (FW_55 S hW)) (by decide) ?_
  refine q_icc6 (z := 1) rfl rfl rfl rfl rfl ?_
  refine q_goto rfl ?_
  refine q_iload rfl rfl rfl ?_
  refine q_bipush rfl rfl ?_
  refine q_icge rfl rfl (fun c56 => absurd c56 (by decide)) (fun c56 => ?_)
  refine q_aload_n rfl rfl rfl ?_
  refine q_getf rfl rfl (by decide) rfl rfl ?_
  refine q_bipush rfl rfl ?_
  refine q_iload rfl rfl rfl ?_
  refine q_imul rfl rfl (q_tn (z := 0) rfl ?_)
  refine q_iload rfl rfl rfl ?_
  refine q_iadd rfl rfl (q_tn (z := 1) rfl ?_)
  refine q_aload_n rfl rfl rfl ?_
  refine q_getf rfl rfl (by decide) rfl rfl ?_
  refine q_iload rfl rfl rfl ?_
  refine q_iald rfl rfl (by decide) rfl (by decide) (q_tn (z := 0) rfl ?_)
  refine q_iast rfl rfl (by decide) rfl (by decide) ?_
  refine q_icc6 (z := 2) rfl rfl rfl rfl rfl ?_
  refine q_goto rfl ?_
  refine q_iload rfl rfl rfl ?_
  refine q_bipush rfl rfl ?_
  refine q_icge rfl rfl (fun c57 => absurd c57 (by decide)) (fun c57 => ?_)
  refine q_aload_n rfl rfl rfl ?_
  refine q_getf rfl rfl (by decide) rfl rfl ?_
  refine q_bipush rfl rfl ?_
  refine q_iload rfl rfl rfl ?_
  refine q_imul rfl rfl (q_tn (z := 0) rfl ?_)
  refine q_iload rfl rfl rfl ?_
  refine q_iadd rfl rfl (q_tn (z := 2) rfl ?_)
  refine q_aload_n rfl rfl rfl ?_
  refine q_getf rfl rfl (by decide) rfl rfl ?_
  refine q_iload rfl rfl rfl ?_
  refine q_iald rfl rfl (by decide) rfl (by decide) (q_tn (z := 0) rfl ?_)
  refine q_iast rfl rfl (by decide) rfl (by decide) ?_
  refine q_icc6 (z := 3) rfl rfl rfl rfl rfl ?_
  refine q_goto rfl ?_
  refine q_iload rfl rfl rfl ?_
  refine q_bipush rfl rfl ?_
  refine q_icge rfl rfl (fun c58 => absurd c58 (by decide)) (fun c58 => ?_)
  refine q_aload_n rfl rfl rfl ?_
  refine q_getf rfl rfl (by decide) rfl rfl ?_
  refine q_bipush rfl rfl ?_
  refine q_iload rfl rfl rfl ?_
  refine q_imul rfl rfl (q_tn (z := 0) rfl ?_)
  refine q_iload rfl rfl rfl ?_
  refine q_iadd rfl rfl (q_tn (z := 3) rfl ?_)
  refine q_aload_n rfl rfl rfl ?_
  refine q_getf rfl rfl (by decide) rfl rfl ?_
  refine q_iload rfl rfl rfl ?_
  refine q_iald rfl rfl (by decide) rfl (by decide) (q_tn (z := 0) rfl ?_)
  refine q_iast rfl rfl (by decide) rfl (by decide) ?_
  refine q_icc6 (z := 4) rfl rfl rfl rfl rfl ?_
  refine q_goto rfl ?_
  refine q_iload rfl rfl rfl ?_
  refine q_bipush rfl rfl ?_
  refine q_icge rfl rfl (fun c59 => absurd c59 (by decide)) (fun c59 => ?_)
  refine q_aload_n rfl rfl rfl ?_
  refine q_getf rfl rfl (by decide) rfl rfl ?_
  refine q_bipush rfl rfl ?_
  refine q_iload rfl rfl rfl ?_
  refine q_imul rfl rfl (q_tn (z := 0) rfl ?_)
  refine q_iload rfl rfl rfl ?_
  refine q_iadd rfl rfl (q_tn (z := 4) rfl ?_)
  refine q_aload_n rfl rfl rfl ?_
  refine q_getf rfl rfl (by decide) rfl rfl ?_
  refine q_iload rfl rfl rfl ?_
  refine q_iald rfl rfl (by decide) rfl (by decide) (q_tn (z := 0) rfl ?_)
  refine q_iast rfl rfl (by decide) rfl (by decide) ?_
  refine q_icc6 (z := 5) rfl rfl rfl rfl rfl ?_
  refine q_goto rfl ?_
  refine q_iload rfl rfl rfl ?_
  refine q_bipush rfl rfl ?_
  refine q_icge rfl rfl (fun c60 => absurd c60 (by decide)) (fun c60 => ?_)
  refine q_aload_n rfl rfl rfl ?_
  refine q_getf rfl rfl (by decide) rfl rfl ?_
  refine q_bipush rfl rfl ?_
  refine q_iload rfl rfl rfl ?_
  refine q_imul rfl rfl (q_tn (z := 0) rfl ?_)
  refine q_iload rfl rfl rfl ?_
  refine q_iadd rfl rfl (q_tn (z := 5) rfl ?_)
  refine q_aload_n rfl rfl rfl ?_
  refine q_getf rfl rfl (by decide) rfl rfl ?_
  refine q_iload rfl rfl rfl ?_
  refine q_iald rfl rfl (by decide) rfl (by decide) (q_tn (z := 0) rfl ?_)
  refine q_iast rfl rfl (by decide) rfl (by decide) ?_
  refine q_icc6 (z := 6) rfl rfl rfl rfl rfl ?_
  refine q_goto rfl ?_
  refine q_iload rfl rfl rfl ?_
  refine q_bipush rfl rfl ?_
  refine q_icge rfl rfl (fun c61 => absurd c61 (by decide)) (fun c61 => ?_)
  refine q_aload_n rfl rfl rfl ?_
  refine q_getf rfl rfl (by decide) rfl rfl ?_
  refine q_bipush rfl rfl ?_
  refine q_iload rfl rfl rfl ?_
  refine q_imul rfl rfl (q_tn (z := 0) rfl ?_)
  refine q_iload rfl rfl rfl ?_
  refine q_iadd rfl rfl (q_tn (z := 6) rfl ?_)
  refine q_aload_n rfl rfl rfl ?_
  refine q_getf rfl rfl (by decide) rfl rfl ?_
  refine q_iload rfl rfl rfl ?_
  refine q_iald rfl rfl (by decide) rfl (by decide) (q_tn (z := 0) rfl ?_)
  refine q_iast rfl rfl (by decide) rfl (by decide) ?_
  refine q_icc6 (z := 7) rfl rfl rfl rfl rfl ?_
  refine q_goto rfl ?_
  refine q_iload rfl rfl rfl ?_
  refine q_bipush rfl rfl ?_
  refine q_icge rfl rfl (fun c62 => absurd c62 (by decide)) (fun c62 => ?_)
  refine q_aload_n rfl rfl rfl ?_
  refine q_getf rfl rfl (by decide) rfl rfl ?_
  refine q_bipush rfl rfl ?_
  refine q_iload rfl rfl rfl ?_
  refine q_imul rfl rfl (q_tn (z := 0) rfl ?_)
  refine q_iload rfl rfl rfl ?_
  refine q_iadd rfl rfl (q_tn (z := 7) rfl ?_)
  refine q_aload_n rfl rfl rfl ?_
  refine q_getf rfl rfl (by decide) rfl rfl ?_
  refine q_iload rfl rfl rfl ?_
  refine q_iald rfl rfl (by decide) rfl (by decide) (q_tn (z := 0) rfl ?_)
  refine q_iast rfl rfl (by decide) rfl (by decide) ?_
  refine q_icc6 (z := 8) rfl rfl rfl rfl rfl ?_
  refine q_goto rfl ?_
  refine q_iload rfl rfl rfl ?_
  refine q_bipush rfl rfl ?_
  refine q_icge rfl rfl (fun c63 => absurd c63 (by decide)) (fun c63 => ?_)
  refine q_aload_n rfl rfl rfl ?_
  refine q_getf rfl rfl (by decide) rfl rfl ?_
  refine q_bipush rfl rfl ?_
  refine q_iload rfl rfl rfl ?_
  refine q_imul rfl rfl (q_tn (z := 0) rfl ?_)
  refine q_iload rfl rfl rfl ?_
  refine q_iadd rfl rfl (q_tn (z := 8) rfl ?_)
  refine q_aload_n rfl rfl rfl ?_
  refine q_getf rfl rfl (by decide) rfl rfl ?_
  refine q_iload rfl rfl rfl ?_
  refine q_iald rfl rfl (by decide) rfl (by decide) (q_tn (z := 0) rfl ?_)
  refine q_iast rfl rfl (by decide) rfl (by decide) ?_
  refine q_icc6 (z := 9) rfl rfl rfl rfl rfl ?_
  refine q_goto rfl ?_
  refine q_iload rfl rfl rfl ?_
  refine q_bipush rfl rfl ?_
  refine q_icge rfl rfl (fun c64 => absurd c64 (by decide)) (fun c64 => ?_)
  refine q_aload_n rfl rfl rfl ?_
  refine q_getf rfl rfl (by decide) rfl rfl ?_
  refine q_bipush rfl rfl ?_
  refine q_iload rfl rfl rfl ?_
  refine q_imul rfl rfl (q_tn (z := 0) rfl ?_)
  refine q_iload rfl rfl rfl ?_
  refine q_iadd rfl rfl (q_tn (z := 9) rfl ?_)
  refine q_aload_n rfl rfl rfl ?_
  refine q_getf rfl rfl (by decide) rfl rfl ?_
  refine q_iload rfl rfl rfl ?_
  refine q_iald rfl rfl (by decide) rfl (by decide) (q_tn (z := 0) rfl ?_)
  refine q_iast rfl rfl (by decide) rfl (by decide) ?_
  refine q_icc6 (z := 10) rfl rfl rfl rfl rfl ?_
  refine q_goto rfl ?_
  refine q_iload rfl rfl rfl ?_
  refine q_bipush rfl rfl ?_
  refine q_icge rfl rfl (fun c65 => absurd c65 (by decide)) (fun c65 => ?_)
  refine q_aload_n rfl rfl rfl ?_
  refine q_getf rfl rfl (by decide) rfl rfl ?_
  refine q_bipush rfl rfl ?_
  refine q_iload rfl rfl rfl ?_
  refine q_imul rfl rfl (q_tn (z := 0) rfl ?_)
  refine q_iload rfl rfl rfl ?_
  refine q_iadd rfl rfl (q_tn (z := 10) rfl ?_)
  refine q_aload_n rfl rfl rfl ?_
  refine q_getf rfl rfl (by decide) rfl rfl ?_
  refine q_iload rfl rfl rfl ?_
  refine q_iald rfl rfl (by decide) rfl (by decide) (q_tn (z := 0) rfl ?_)
  refine q_iast rfl rfl (by decide) rfl (by decide) ?_
  refine q_icc6 (z := 11) rfl rfl rfl rfl rfl ?_
  refine q_goto rfl ?_
  refine q_iload rfl rfl rfl ?_
  refine q_bipush rfl rfl ?_
  refine q_icge rfl rfl (fun c66 => absurd c66 (by decide)) (fun c66 => ?_)
  refine q_aload_n rfl rfl rfl ?_
  refine q_getf rfl rfl (by decide) rfl rfl ?_
  refine q_bipush rfl rfl ?_
  refine q_iload rfl rfl rfl ?_
  refine q_imul rfl rfl (q_tn (z := 0) rfl ?_)
  refine q_iload rfl rfl rfl ?_
  refine q_iadd rfl rfl (q_tn (z := 11) rfl ?_)
  refine q_aload_n rfl rfl rfl ?_
  refine q_getf rfl rfl (by decide) rfl rfl ?_
  refine q_iload rfl rfl rfl ?_
  refine q_iald rfl rfl (by decide) rfl (by decide) (q_tn (z := 0) rfl ?_)
  refine q_iast rfl rfl (by decide) rfl (by decide) ?_
  refine q_icc6 (z := 12) rfl rfl rfl rfl rfl ?_
  refine q_goto rfl ?_
  refine q_iload rfl rfl rfl ?_
  refine q_bipush rfl rfl ?_
  refine q_icge rfl rfl (fun c67 => absurd c67 (by decide)) (fun c67 => ?_)
  refine q_aload_n rfl rfl rfl ?_
  refine q_getf rfl rfl (by decide) rfl rfl ?_
  refine q_bipush rfl rfl ?_
  refine q_iload rfl rfl rfl ?_
  refine q_imul rfl rfl (q_tn (z := 0) rfl ?_)
  refine q_iload rfl rfl rfl ?_
  refine q_iadd rfl rfl (q_tn (z := 12) rfl ?_)
  refine q_aload_n rfl rfl rfl ?_
  refine q_getf rfl rfl (by decide) rfl rfl ?_
  refine q_iload rfl rfl rfl ?_
  refine q_iald rfl rfl (by decide) rfl (by decide) (q_tn (z := 0) rfl ?_)
  refine q_iast rfl rfl (by decide) rfl (by decide) ?_
  refine q_icc6 (z := 13) rfl rfl rfl rfl rfl ?_
  refine q_goto rfl ?_
  refine q_iload rfl rfl rfl ?_
  refine q_bipush rfl rfl ?_
  refine q_icge rfl rfl (fun c68 => absurd c68 (by decide)) (fun c68 => ?_)
  refine q_aload_n rfl rfl rfl ?_
  refine q_getf rfl rfl (by decide) rfl rfl ?_
  refine q_bipush rfl rfl ?_
  refine q_iload rfl rfl rfl ?_
  refine q_imul rfl rfl (q_tn (z := 0) rfl ?_)
  refine q_iload rfl rfl rfl ?_
  refine q_iadd rfl rfl (q_tn (z := 13) rfl ?_)
  refine q_aload_n rfl rfl rfl ?_
  refine q_getf rfl rfl (by decide) rfl rfl ?_
  refine q_iload rfl rfl rfl ?_
  refine q_iald rfl rfl (by decide) rfl (by decide) (q_tn (z := 0) rfl ?_)
  refine q_iast rfl rfl (by decide) rfl (by decide) ?_
  refine q_icc6 (z := 14) rfl rfl rfl rfl rfl ?_
  refine q_goto rfl ?_
  refine q_iload rfl rfl rfl ?_
  refine q_bipush rfl rfl ?_
  refine q_icge rfl rfl (fun c69 => absurd c69 (by decide)) (fun c69 => ?_)
  refine q_aload_n rfl rfl rfl ?_
  refine q_getf rfl rfl (by decide) rfl rfl ?_
  refine q_bipush rfl rfl ?_
  refine q_iload rfl rfl rfl ?_
  refine q_imul rfl rfl (q_tn (z := 0) rfl ?_)
  refine q_iload rfl rfl rfl ?_
  refine q_iadd rfl rfl (q_tn (z := 14) rfl ?_)
  refine q_aload_n rfl rfl rfl ?_
  refine q_getf rfl rfl (by decide) rfl rfl ?_
  refine q_iload rfl rfl rfl ?_
  refine q_iald rfl rfl (by decide) rfl (by decide) (q_tn (z := 0) rfl ?_)
  refine q_iast rfl rfl (by decide) rfl (by decide) ?_
  refine q_icc6 (z := 15) rfl rfl rfl rfl rfl ?_
  refine q_goto rfl ?_
  refine q_iload rfl rfl rfl ?_
  refine q_bipush rfl rfl ?_
  refine q_icge rfl rfl (fun c70 => absurd c70 (by decide)) (fun c70 => ?_)
  refine q_aload_n rfl rfl rfl ?_
  refine q_getf rfl rfl (by decide) rfl rfl ?_
  refine q_bipush rfl rfl ?_
  refine q_iload rfl rfl rfl ?_
  refine q_imul rfl rfl (q_tn (z := 0) rfl ?_)
  refine q_iload rfl rfl rfl ?_
  refine q_iadd rfl rfl (q_tn (z := 15) rfl ?_)
  refine q_aload_n rfl rfl rfl ?_
  refine q_getf rfl rfl (by decide) rfl rfl ?_
  refine q_iload rfl rfl rfl ?_
  refine q_iald rfl rfl (by decide) rfl (by decide) (q_tn (z := 0) rfl ?_)
  refine q_iast rfl rfl (by decide) rfl (by decide) ?_
  refine q_icc6 (z := 16) rfl rfl rfl rfl rfl ?_
  refine q_goto rfl ?_
  refine q_iload rfl rfl rfl ?_
  refine q_bipush rfl rfl ?_
  refine q_icge rfl rfl (fun c71 => absurd c71 (by decide)) (fun c71 => ?_)
  refine q_aload_n rfl rfl rfl ?_
  refine q_getf rfl rfl (by decide) rfl rfl ?_
  refine q_bipush rfl rfl ?_
  refine q_iload rfl rfl rfl ?_
  refine q_imul rfl rfl (q_tn (z := 0) rfl ?_)
  refine q_iload rfl rfl rfl ?_
  refine q_iadd rfl rfl (q_tn (z := 16) rfl ?_)
  refine q_aload_n rfl rfl rfl ?_
  refine q_getf rfl rfl (by decide) rfl rfl ?_
  refine q_iload rfl rfl rfl ?_
  refine q_iald rfl rfl (by decide) rfl (by decide) (q_tn (z := 0) rfl ?_)
  refine q_iast rfl rfl (by decide) rfl (by decide) ?_
  refine q_icc6 (z := 17) rfl rfl rfl rfl rfl ?_
  refine q_goto rfl ?_
  refine q_iload rfl rfl rfl ?_
  refine q_bipush rfl rfl ?_
  refine q_icge rfl rfl (fun c72 => absurd c72 (by decide)) (fun c72 => ?_)
  refine q_aload_n rfl rfl rfl ?_
  refine q_getf rfl rfl (by decide) rfl rfl ?_
  refine q_bipush rfl rfl ?_
  refine q_iload rfl rfl rfl ?_
  refine q_imul rfl rfl (q_tn (z := 0) rfl ?_)
  refine q_iload rfl rfl rfl ?_
  refine q_iadd rfl rfl (q_tn (z := 17) rfl ?_)
  refine q_aload_n rfl rfl rfl ?_
  refine q_getf rfl rfl (by decide) rfl rfl ?_
  refine q_iload rfl rfl rfl ?_
  refine q_iald rfl rfl (by decide) rfl (by decide) (q_tn (z := 0) rfl ?_)
  refine q_iast rfl rfl (by decide) rfl (by decide) ?_
  refine q_icc6 (z := 18) rfl rfl rfl rfl rfl ?_
  refine q_goto rfl ?_
  refine q_iload rfl rfl rfl ?_
  refine q_bipush rfl rfl ?_
  refine q_icge rfl rfl (fun c73 => absurd c73 (by decide)) (fun c73 => ?_)
  refine q_aload_n rfl rfl rfl ?_
  refine q_getf rfl rfl (by decide) rfl rfl ?_
  refine q_bipush rfl rfl ?_
  refine q_iload rfl rfl rfl ?_
  refine q_imul rfl rfl (q_tn (z := 0) rfl ?_)
  refine q_iload rfl rfl rfl ?_
  refine q_iadd rfl rfl (q_tn (z := 18) rfl ?_)
  refine q_aload_n rfl rfl rfl ?_
  refine q_getf rfl rfl (by decide) rfl rfl ?_
  refine q_iload rfl rfl rfl ?_
  refine q_iald rfl rfl (by decide) rfl (by decide) (q_tn (z := 0) rfl ?_)
  refine q_iast rfl rfl (by decide) rfl (by decide) ?_
  refine q_icc6 (z := 19) rfl rfl rfl rfl rfl ?_
  refine q_goto rfl ?_
  refine q_iload rfl rfl rfl ?_
  refine q_bipush rfl rfl ?_
  refine q_icge rfl rfl (fun c74 => absurd c74 (by decide)) (fun c74 => ?_)
  refine q_aload_n rfl rfl rfl ?_
  refine q_getf rfl rfl (by decide) rfl rfl ?_
  refine q_bipush rfl rfl ?_
  refine q_iload rfl rfl rfl ?_
  refine q_imul rfl rfl (q_tn (z := 0) rfl ?_)
  refine q_iload rfl rfl rfl ?_
  refine q_iadd rfl rfl (q_tn (z := 19) rfl ?_)
  refine q_aload_n rfl rfl rfl ?_
  refine q_getf rfl rfl (by decide) rfl rfl ?_
  refine q_iload rfl rfl rfl ?_
  refine q_iald rfl rfl (by decide) rfl (by decide) (q_tn (z := 0) rfl ?_)
  refine q_iast rfl rfl (by decide) rfl (by decide) ?_
  refine q_icc6 (z := 20) rfl rfl rfl rfl rfl ?_
  refine q_goto rfl ?_
  refine q_iload rfl rfl rfl ?_
  refine q_bipush rfl rfl ?_
  refine q_icge rfl rfl (fun c75 => ?_) (fun c75 => absurd (by decide) c75)
  refine q_aload_n rfl rfl rfl ?_
  refine q_getf rfl rfl (by decide) rfl rfl ?_
  refine q_iload rfl rfl rfl ?_
  refine q_iload_n rfl rfl rfl ?_
  refine q_iast rfl rfl (by decide) ((FM_56 hM).trans (FW_56 S hW)) (by decide) ?_
  refine q_aload_n rfl rfl rfl ?_
  refine q_getf rfl rfl (by decide) rfl rfl ?_
  refine q_iload rfl rfl rfl ?_
  refine q_iload_n rfl rfl rfl ?_
  refine q_iast rfl rfl (by decide) ((FM_57 hM).trans (FW_57 S hW)) (by decide) ?_
  refine q_aload_n rfl rfl rfl ?_
  refine q_iload_n rfl rfl rfl ?_
  refine q_nV1 rfl rfl (Or.inl rfl) rfl rfl rfl (by decide) rfl ⟨rfl, rfl⟩ rfl ?_
  change PQ _ _ _ mm_X12_rest 0 [.ref 46, .int 0, pm_un, pm_un] [] _ _ 0 0 _
  refine q_bipush rfl rfl ?_
  refine q_ist2n rfl rfl rfl rfl ?_
  refine q_iconst rfl rfl ?_
  refine q_ist3n rfl rfl rfl rfl ?_
  refine q_iload_n rfl rfl rfl ?_
  refine q_bipush rfl rfl ?_
  refine q_icge rfl rfl (fun c76 => absurd c76 (by decide)) (fun c76 => ?_)
  refine q_bipush rfl rfl ?_
  refine q_iload_n rfl rfl rfl ?_
  refine q_imul rfl rfl (q_tn (z := 527) rfl ?_)
  refine q_aload_n rfl rfl rfl ?_
  refine q_getf rfl rfl (by decide) rfl rfl ?_
  refine q_iload_n rfl rfl rfl ?_
  refine q_iald rfl rfl (by decide) rfl (by decide) (q_tn (z := 10) rfl ?_)
  refine q_iadd rfl rfl (q_tn (z := 537) rfl ?_)
  refine q_ist2n rfl rfl rfl rfl ?_
  refine q_icc3 (z := 1) rfl rfl rfl rfl rfl ?_
  refine q_goto rfl ?_
  refine q_iload_n rfl rfl rfl ?_
  refine q_bipush rfl rfl ?_
  refine q_icge rfl rfl (fun c77 => absurd c77 (by decide)) (fun c77 => ?_)
  refine q_bipush rfl rfl ?_
  refine q_iload_n rfl rfl rfl ?_
  refine q_imul rfl rfl (q_tn (z := 16647) rfl ?_)
  refine q_aload_n rfl rfl rfl ?_
  refine q_getf rfl rfl (by decide) rfl rfl ?_
  refine q_iload_n rfl rfl rfl ?_
  refine q_iald rfl rfl (by decide) rfl (by decide) (q_tn (z := 0) rfl ?_)
  refine q_iadd rfl rfl (q_tn (z := 16647) rfl ?_)
  refine q_ist2n rfl rfl rfl rfl ?_
  refine q_icc3 (z := 2) rfl rfl rfl rfl rfl ?_
  refine q_goto rfl ?_
  refine q_iload_n rfl rfl rfl ?_
  refine q_bipush rfl rfl ?_
  refine q_icge rfl rfl (fun c78 => absurd c78 (by decide)) (fun c78 => ?_)
  refine q_bipush rfl rfl ?_
  refine q_iload_n rfl rfl rfl ?_
  refine q_imul rfl rfl (q_tn (z := 516057) rfl ?_)
  refine q_aload_n rfl rfl rfl ?_
  refine q_getf rfl rfl (by decide) rfl rfl ?_
  refine q_iload_n rfl rfl rfl ?_
  refine q_iald rfl rfl (by decide) rfl (by decide) (q_tn (z := 0) rfl ?_)
  refine q_iadd rfl rfl (q_tn (z := 516057) rfl ?_)
  refine q_ist2n rfl rfl rfl rfl ?_
  refine q_icc3 (z := 3) rfl rfl rfl rfl rfl ?_
  refine q_goto rfl ?_
  refine q_iload_n rfl rfl rfl ?_
  refine q_bipush rfl rfl ?_
  refine q_icge rfl rfl (fun c79 => absurd c79 (by decide)) (fun c79 => ?_)
  refine q_bipush rfl rfl ?_
  refine q_iload_n rfl rfl rfl ?_
  refine q_imul rfl rfl (q_tn (z := 15997767) rfl ?_)
  refine q_aload_n rfl rfl rfl ?_
  refine q_getf rfl rfl (by decide) rfl rfl ?_
  refine q_iload_n rfl rfl rfl ?_
  refine q_iald rfl rfl (by decide) rfl (by decide) (q_tn (z := 0) rfl ?_)
  refine q_iadd rfl rfl (q_tn (z := 15997767) rfl ?_)
  refine q_ist2n rfl rfl rfl rfl ?_
  refine q_icc3 (z := 4) rfl rfl rfl rfl rfl ?_
  refine q_goto rfl ?_
  refine q_iload_n rfl rfl rfl ?_
  refine q_bipush rfl rfl ?_
  refine q_icge rfl rfl (fun c80 => absurd c80 (by decide)) (fun c80 => ?_)
  refine q_bipush rfl rfl ?_
  refine q_iload_n rfl rfl rfl ?_
  refine q_imul rfl rfl (q_tn (z := 495930777) rfl ?_)
  refine q_aload_n rfl rfl rfl ?_
  refine q_getf rfl rfl (by decide) rfl rfl ?_
  refine q_iload_n rfl rfl rfl ?_
  refine q_iald rfl rfl (by decide) rfl (by decide) (q_tn (z := 0) rfl ?_)
  refine q_iadd rfl rfl (q_tn (z := 495930777) rfl ?_)
  refine q_ist2n rfl rfl rfl rfl ?_
  refine q_icc3 (z := 5) rfl rfl rfl rfl rfl ?_
  refine q_goto rfl ?_
  refine q_iload_n rfl rfl rfl ?_
  refine q_bipush rfl rfl ?_
  refine q_icge rfl rfl (fun c81 => absurd c81 (by decide)) (fun c81 => ?_)
  refine q_bipush rfl rfl ?_
  refine q_iload_n rfl rfl rfl ?_
  refine q_imul rfl rfl (q_tn (z := (-1806015097)) rfl ?_)
  refine q_aload_n rfl rfl rfl ?_
  refine q_getf rfl rfl (by decide) rfl rfl ?_
  refine q_iload_n rfl rfl rfl ?_
  refine q_iald rfl rfl (by decide) rfl (by decide) (q_tn (z := 0) rfl ?_)
  refine q_iadd rfl rfl (q_tn (z := (-1806015097)) rfl ?_)
  refine q_ist2n rfl rfl rfl rfl ?_
  refine q_icc3 (z := 6) rfl rfl rfl rfl rfl ?_
  refine q_goto rfl ?_
  refine q_iload_n rfl rfl rfl ?_
  refine q_bipush rfl rfl ?_
  refine q_icge rfl rfl (fun c82 => absurd c82 (by decide)) (fun c82 => ?_)
  refine q_bipush rfl rfl ?_
  refine q_iload_n rfl rfl rfl ?_
  refine q_imul rfl rfl (q_tn (z := (-151893159)) rfl ?_)
  refine q_aload_n rfl rfl rfl ?_
  refine q_getf rfl rfl (by decide) rfl rfl ?_
  refine q_iload_n rfl rfl rfl ?_
  refine q_iald rfl rfl (by decide) rfl (by decide) (q_tn (z := 0) rfl ?_)
  refine q_iadd rfl rfl (q_tn (z := (-151893159)) rfl ?_)
  refine q_ist2n rfl rfl rfl rfl ?_
  refine q_icc3 (z := 7) rfl rfl rfl rfl rfl ?_
  refine q_goto rfl ?_
  refine q_iload_n rfl rfl rfl ?_
  refine q_bipush rfl rfl ?_
  refine q_icge rfl rfl (fun c83 => absurd c83 (by decide)) (fun c83 => ?_)
  refine q_bipush rfl rfl ?_
  refine q_iload_n rfl rfl rfl ?_
  refine q_imul rfl rfl (q_tn (z := (-413720633)) rfl ?_)
  refine q_aload_n rfl rfl rfl ?_
  refine q_getf rfl rfl (by decide) rfl rfl ?_
  refine q_iload_n rfl rfl rfl ?_
  refine q_iald rfl rfl (by decide) rfl (by decide) (q_tn (z := 0) rfl ?_)
  refine q_iadd rfl rfl (q_tn (z := (-413720633)) rfl ?_)
  refine q_ist2n rfl rfl rfl rfl ?_
  refine q_icc3 (z := 8) rfl rfl rfl rfl rfl ?_
  refine q_goto rfl ?_
  refine q_iload_n rfl rfl rfl ?_
  refine q_bipush rfl rfl ?_
  refine q_icge rfl rfl (fun c84 => absurd c84 (by decide)) (fun c84 => ?_)
  refine q_bipush rfl rfl ?_
  refine q_iload_n rfl rfl rfl ?_
  refine q_imul rfl rfl (q_tn (z := 59562265) rfl ?_)
  refine q_aload_n rfl rfl rfl ?_
  refine q_getf rfl rfl (by decide) rfl rfl ?_
  refine q_iload_n rfl rfl rfl ?_
  refine q_iald rfl rfl (by decide) rfl (by decide) (q_tn (z := 0) rfl ?_)
  refine q_iadd rfl rfl (q_tn (z := 59562265) rfl ?_)
  refine q_ist2n rfl rfl rfl rfl ?_
  refine q_icc3 (z := 9) rfl rfl rfl rfl rfl ?_
  refine q_goto rfl ?_
  refine q_iload_n rfl rfl rfl ?_
  refine q_bipush rfl rfl ?_
  refine q_icge rfl rfl (fun c85 => absurd c85 (by decide)) (fun c85 => ?_)
  refine q_bipush rfl rfl ?_
  refine q_iload_n rfl rfl rfl ?_
  refine q_imul rfl rfl (q_tn (z := 1846430215) rfl ?_)
  refine q_aload_n rfl rfl rfl ?_
  refine q_getf rfl rfl (by decide) rfl rfl ?_
  refine q_iload_n rfl rfl rfl ?_
  refine q_iald rfl rfl (by decide) rfl (by decide) (q_tn (z := 0) rfl ?_)
  refine q_iadd rfl rfl (q_tn (z := 1846430215) rfl ?_)
  refine q_ist2n rfl rfl rfl rfl ?_
  refine q_icc3 (z := 10) rfl rfl rfl rfl rfl ?_
  refine q_goto rfl ?_
  refine q_iload_n rfl rfl rfl ?_
  refine q_bipush rfl rfl ?_
  refine q_icge rfl rfl (fun c86 => absurd c86 (by decide)) (fun c86 => ?_)
  refine q_bipush rfl rfl ?_
  refine q_iload_n rfl rfl rfl ?_
  refine q_imul rfl rfl (q_tn (z := 1404761817) rfl ?_)
  refine q_aload_n rfl rfl rfl ?_
  refine q_getf rfl rfl (by decide) rfl rfl ?_
  refine q_iload_n rfl rfl rfl ?_
  refine q_iald rfl rfl (by decide) rfl (by decide) (q_tn (z := 0) rfl ?_)
  refine q_iadd rfl rfl (q_tn (z := 1404761817) rfl ?_)
  refine q_ist2n rfl rfl rfl rfl ?_
  refine q_icc3 (z := 11) rfl rfl rfl rfl rfl ?_
  refine q_goto rfl ?_
  refine q_iload_n rfl rfl rfl ?_
  refine q_bipush rfl rfl ?_
  refine q_icge rfl rfl (fun c87 => absurd c87 (by decide)) (fun c87 => ?_)
  refine q_bipush rfl rfl ?_
  refine q_iload_n rfl rfl rfl ?_
  refine q_imul rfl rfl (q_tn (z := 597943367) rfl ?_)
  refine q_aload_n rfl rfl rfl ?_
  refine q_getf rfl rfl (by decide) rfl rfl ?_
  refine q_iload_n rfl rfl rfl ?_
  refine q_iald rfl rfl (by decide) rfl (by decide) (q_tn (z := 0) rfl ?_)
  refine q_iadd rfl rfl (q_tn (z := 597943367) rfl ?_)
  refine q_ist2n rfl rfl rfl rfl ?_
  refine q_icc3 (z := 12) rfl rfl rfl rfl rfl ?_
  refine q_goto rfl ?_
  refine q_iload_n rfl rfl rfl ?_
  refine q_bipush rfl rfl ?_
  refine q_icge rfl rfl (fun c88 => absurd c88 (by decide)) (fun c88 => ?_)
  refine q_bipush rfl rfl ?_
  refine q_iload_n rfl rfl rfl ?_
  refine q_imul rfl rfl (q_tn (z := 1356375193) rfl ?_)
  refine q_aload_n rfl rfl rfl ?_
  refine q_getf rfl rfl (by decide) rfl rfl ?_
  refine q_iload_n rfl rfl rfl ?_
  refine q_iald rfl rfl (by decide) rfl (by decide) (q_tn (z := 0) rfl ?_)
  refine q_iadd rfl rfl (q_tn (z := 1356375193) rfl ?_)
  refine q_ist2n rfl rfl rfl rfl ?_
  refine q_icc3 (z := 13) rfl rfl rfl rfl rfl ?_
  refine q_goto rfl ?_
  refine q_iload_n rfl rfl rfl ?_
  refine q_bipush rfl rfl ?_
  refine q_icge rfl rfl (fun c89 => absurd c89 (by decide)) (fun c89 => ?_)
  refine q_bipush rfl rfl ?_
  refine q_iload_n rfl rfl rfl ?_
  refine q_imul rfl rfl (q_tn (z := (-902041977)) rfl ?_)
  refine q_aload_n rfl rfl rfl ?_
  refine q_getf rfl rfl (by decide) rfl rfl ?_
  refine q_iload_n rfl rfl rfl ?_
  refine q_iald rfl rfl (by decide) rfl (by decide) (q_tn (z := 0) rfl ?_)
  refine q_iadd rfl rfl (q_tn (z := (-902041977)) rfl ?_)
  refine q_ist2n rfl rfl rfl rfl ?_
  refine q_icc3 (z := 14) rfl rfl rfl rfl rfl ?_
  refine q_goto rfl ?_
  refine q_iload_n rfl rfl rfl ?_
  refine q_bipush rfl rfl ?_
  as_aux_lemma =>
    refine q_icge rfl rfl (fun c90 => absurd c90 (by decide)) (fun c90 => ?_)
    refine q_bipush rfl rfl ?_
    refine q_iload_n rfl rfl rfl ?_
    refine q_imul rfl rfl (q_tn (z := 2101469785) rfl ?_)
    refine q_aload_n rfl rfl rfl ?_
    refine q_getf rfl rfl (by decide) rfl rfl ?_
    refine q_iload_n rfl rfl rfl ?_
    refine q_iald rfl rfl (by decide) rfl (by decide) (q_tn (z := 0) rfl ?_)
    refine q_iadd rfl rfl (q_tn (z := 2101469785) rfl ?_)
    refine q_ist2n rfl rfl rfl rfl ?_
    refine q_icc3 (z := 15) rfl rfl rfl rfl rfl ?_
    refine q_goto rfl ?_
    refine q_iload_n rfl rfl rfl ?_
    refine q_bipush rfl rfl ?_
    refine q_icge rfl rfl (fun c91 => absurd c91 (by decide)) (fun c91 => ?_)
    refine q_bipush rfl rfl ?_
    refine q_iload_n rfl rfl rfl ?_
    refine q_imul rfl rfl (q_tn (z := 721053895) rfl ?_)
    refine q_aload_n rfl rfl rfl ?_
    refine q_getf rfl rfl (by decide) rfl rfl ?_
    refine q_iload_n rfl rfl rfl ?_
    refine q_iald rfl rfl (by decide) rfl (by decide) (q_tn (z := 0) rfl ?_)
    refine q_iadd rfl rfl (q_tn (z := 721053895) rfl ?_)
    refine q_ist2n rfl rfl rfl rfl ?_
    refine q_icc3 (z := 16) rfl rfl rfl rfl rfl ?_
    refine q_goto rfl ?_
    refine q_iload_n rfl rfl rfl ?_
    refine q_bipush rfl rfl ?_
    refine q_icge rfl rfl (fun c92 => absurd c92 (by decide)) (fun c92 => ?_)
    refine q_bipush rfl rfl ?_
    refine q_iload_n rfl rfl rfl ?_
    refine q_imul rfl rfl (q_tn (z := 877834265) rfl ?_)
    refine q_aload_n rfl rfl rfl ?_
    refine q_getf rfl rfl (by decide) rfl rfl ?_
    refine q_iload_n rfl rfl rfl ?_
    refine q_iald rfl rfl (by decide) rfl (by decide) (q_tn (z := 0) rfl ?_)
    refine q_iadd rfl rfl (q_tn (z := 877834265) rfl ?_)
    refine q_ist2n rfl rfl rfl rfl ?_
    refine q_icc3 (z := 17) rfl rfl rfl rfl rfl ?_
    refine q_goto rfl ?_
    refine q_iload_n rfl rfl rfl ?_
    refine q_bipush rfl rfl ?_
    refine q_icge rfl rfl (fun c93 => absurd c93 (by decide)) (fun c93 => ?_)
    refine q_bipush rfl rfl ?_
    refine q_iload_n rfl rfl rfl ?_
    refine q_imul rfl rfl (q_tn (z := 1443058439) rfl ?_)
    refine q_aload_n rfl rfl rfl ?_
    refine q_getf rfl rfl (by decide) rfl rfl ?_
    refine q_iload_n rfl rfl rfl ?_
    refine q_iald rfl rfl (by decide) rfl (by decide) (q_tn (z := 0) rfl ?_)
    refine q_iadd rfl rfl (q_tn (z := 1443058439) rfl ?_)
    refine q_ist2n rfl rfl rfl rfl ?_
    refine q_icc3 (z := 18) rfl rfl rfl rfl rfl ?_
    refine q_goto rfl ?_
    refine q_iload_n rfl rfl rfl ?_
    refine q_bipush rfl rfl ?_
    refine q_icge rfl rfl (fun c94 => absurd c94 (by decide)) (fun c94 => ?_)
    refine q_bipush rfl rfl ?_
    refine q_iload_n rfl rfl rfl ?_
    refine q_imul rfl rfl (q_tn (z := 1785138649) rfl ?_)
    refine q_aload_n rfl rfl rfl ?_
    refine q_getf rfl rfl (by decide) rfl rfl ?_
    refine q_iload_n rfl rfl rfl ?_
    refine q_iald rfl rfl (by decide) rfl (by decide) (q_tn (z := 0) rfl ?_)
    refine q_iadd rfl rfl (q_tn (z := 1785138649) rfl ?_)
    refine q_ist2n rfl rfl rfl rfl ?_
    refine q_icc3 (z := 19) rfl rfl rfl rfl rfl ?_
    refine q_goto rfl ?_
    refine q_iload_n rfl rfl rfl ?_
    refine q_bipush rfl rfl ?_
    refine q_icge rfl rfl (fun c95 => absurd c95 (by decide)) (fun c95 => ?_)
    refine q_bipush rfl rfl ?_
    refine q_iload_n rfl rfl rfl ?_
    refine q_imul rfl rfl (q_tn (z := (-495276729)) rfl ?_)
    refine q_aload_n rfl rfl rfl ?_
    refine q_getf rfl rfl (by decide) rfl rfl ?_
    refine q_iload_n rfl rfl rfl ?_
    refine q_iald rfl rfl (by decide) rfl (by decide) (q_tn (z := 0) rfl ?_)
    refine q_iadd rfl rfl (q_tn (z := (-495276729)) rfl ?_)
    refine q_ist2n rfl rfl rfl rfl ?_
    refine q_icc3 (z := 20) rfl rfl rfl rfl rfl ?_
    refine q_goto rfl ?_
    refine q_iload_n rfl rfl rfl ?_
    refine q_bipush rfl rfl ?_
    refine q_icge rfl rfl (fun c96 => ?_) (fun c96 => absurd (by decide) c96)
    refine q_sipush rfl rfl ?_
    refine q_iload_n rfl rfl rfl ?_
    refine q_imul rfl rfl (q_tn (z := 0) rfl ?_)
    refine q_iload_n rfl rfl rfl ?_
    refine q_iload_n rfl rfl rfl ?_
    refine q_bipush rfl rfl ?_
    refine q_iushr rfl rfl (q_tn (z := 463829) rfl ?_)
    refine q_ixor rfl rfl (q_tn (z := (-495075694)) rfl ?_)
    refine q_sipush rfl rfl ?_
    refine q_irem rfl rfl (by decide) (q_tn (z := (-366)) rfl ?_)
    refine q_iload_n rfl rfl rfl ?_
    refine q_iload_n rfl rfl rfl ?_
    refine q_bipush rfl rfl ?_
    refine q_iushr rfl rfl (q_tn (z := 463829) rfl ?_)
    refine q_ixor rfl rfl (q_tn (z := (-495075694)) rfl ?_)
    refine q_sipush rfl rfl ?_
    refine q_irem rfl rfl (by decide) (q_tn (z := (-366)) rfl ?_)
    refine q_ifge rfl rfl (fun c97 => absurd c97 (by decide)) (fun c97 => ?_)
    refine q_iconst rfl rfl ?_
    refine q_goto rfl ?_
    refine q_imul rfl rfl (q_tn (z := 366) rfl ?_)
    refine q_iadd rfl rfl (q_tn (z := 366) rfl ?_)
    refine q_iret rfl rfl trivial ?_
    refine ⟨_, rfl, ?_⟩
    refine q_ist6 rfl rfl rfl rfl ?_
    refine q_aload_n rfl rfl rfl ?_
    refine q_getf rfl rfl (by decide) rfl rfl ?_
    refine q_iload rfl rfl rfl ?_
    refine q_aload_n rfl rfl rfl ?_
    refine q_getf rfl rfl (by decide) rfl rfl ?_
    refine q_iload rfl rfl rfl ?_
    refine q_iald rfl rfl (by decide) rfl (by decide) (q_tn (z := (-1)) rfl ?_)
    refine q_iast rfl rfl (by decide) ((FM_58 hM).trans (FW_58 S hW)) (by decide) ?_
    refine q_aload_n rfl rfl rfl ?_
    refine q_getf rfl rfl (by decide) rfl rfl ?_
    refine q_iload rfl rfl rfl ?_
    refine q_iload rfl rfl rfl ?_
    refine q_iast rfl rfl (by decide) rfl (by decide) ?_
    refine q_aload_n rfl rfl rfl ?_
    refine q_getf rfl rfl (by decide) rfl rfl ?_
    refine q_iload_n rfl rfl rfl ?_
    refine q_dup2 rfl rfl ?_
    refine q_iald rfl rfl (by decide) rfl (by decide) (q_tn (z := 0) rfl ?_)
    refine q_iconst rfl rfl ?_
    refine q_iadd rfl rfl (q_tn (z := 1) rfl ?_)
    refine q_iast rfl rfl (by decide) rfl (by decide) ?_
    refine q_iload rfl rfl rfl ?_
    refine q_iret rfl rfl trivial ?_
    refine ⟨_, rfl, ?_⟩
    refine q_ist3n rfl rfl rfl rfl ?_
    refine q_iconst rfl rfl ?_
    refine q_ist4 rfl rfl rfl rfl ?_
    refine q_iload rfl rfl rfl ?_
    refine q_aload_n rfl rfl rfl ?_
    refine q_getf rfl rfl (by decide) rfl rfl ?_
    refine q_iload_n rfl rfl rfl ?_
    refine q_iald rfl rfl (by decide) rfl (by decide) (q_tn (z := 1) rfl ?_)
    refine q_icge rfl rfl (fun c98 => absurd c98 (by decide)) (fun c98 => ?_)
    refine q_iconst rfl rfl ?_
    refine q_ist5 rfl rfl rfl rfl ?_
    refine q_iload rfl rfl rfl ?_
    refine q_iconst rfl rfl ?_
    refine q_icge rfl rfl (fun c99 => absurd c99 (by decide)) (fun c99 => ?_)
    refine q_iconst rfl rfl ?_
    refine q_sipush rfl rfl ?_
    refine q_iload_n rfl rfl rfl ?_
    refine q_imul rfl rfl (q_tn (z := 0) rfl ?_)
    refine q_iload rfl rfl rfl ?_
    refine q_iadd rfl rfl (q_tn (z := 0) rfl ?_)
    refine q_imul rfl rfl (q_tn (z := 0) rfl ?_)
    refine q_iload rfl rfl rfl ?_
    refine q_iadd rfl rfl (q_tn (z := 0) rfl ?_)
    refine q_ist6 rfl rfl rfl rfl ?_
    refine q_aload_n rfl rfl rfl ?_
    refine q_getf rfl rfl (by decide) rfl rfl ?_
    refine q_iload rfl rfl rfl ?_
    refine q_iconst rfl rfl ?_
    refine q_iast rfl rfl (by decide) ((FM_59 hM).trans (FW_59 S hW)) (by decide) ?_
    refine q_aload_n rfl rfl rfl ?_
    refine q_iload_n rfl rfl rfl ?_
    refine q_iload rfl rfl rfl ?_
    refine q_cV2v rfl rfl (Or.inl rfl) rfl rfl rfl (by decide) rfl ⟨rfl, rfl⟩ rfl (fun K' hK' => l_sa (R := 0) (by decide) rfl (by decide) rfl rfl rfl rfl rfl hK') ?_
    refine q_iload rfl rfl rfl ?_
    refine q_aload_n rfl rfl rfl ?_
    refine q_getf rfl rfl (by decide) rfl rfl ?_
    refine q_icge rfl rfl (fun c100 => absurd c100 (by decide)) (fun c100 => ?_)
    refine q_aload_n rfl rfl rfl ?_
    refine q_iload rfl rfl rfl ?_
    refine q_iload_n rfl rfl rfl ?_
    refine q_nV2 rfl rfl (Or.inl rfl) rfl rfl rfl (by decide) rfl ⟨rfl, rfl⟩ rfl ?_
    change PQ _ _ _ mm_X12_maySteps 0 [.ref 46, .int 0, .int 0, pm_un, pm_un, pm_un] [] _ _ 0 0 _
    refine q_aload_n rfl rfl rfl ?_
    refine q_iload_n rfl rfl rfl ?_
    refine q_iload_n rfl rfl rfl ?_
    refine q_nV2 rfl rfl (Or.inl rfl) rfl rfl rfl (by decide) rfl ⟨rfl, rfl⟩ rfl ?_
    change PQ _ _ _ mm_X12_canStep 0 [.ref 46, .int 0, .int 0, pm_un] [] _ _ 0 0 _
    refine q_aload_n rfl rfl rfl ?_
    refine q_iload_n rfl rfl rfl ?_
    refine q_nV1 rfl rfl (Or.inl rfl) rfl rfl rfl (by decide) rfl ⟨rfl, rfl⟩ rfl ?_
    change PQ _ _ _ mm_X12_isOver 0 [.ref 46, .int 0] [] _ _ 0 0 _
    refine q_aload_n rfl rfl rfl ?_
    refine q_getf rfl rfl (by decide) rfl rfl ?_
    refine q_iconst rfl rfl ?_
    refine q_iload_n rfl rfl rfl ?_
    refine q_imul rfl rfl (q_tn (z := 0) rfl ?_)
    refine q_iald rfl rfl (by decide) rfl (by decide) (q_tn (z := 10) rfl ?_)
    refine q_bipush rfl rfl ?_
    refine q_iclt rfl rfl (fun c101 => absurd c101 (by decide)) (fun c101 => ?_)
    refine q_iconst rfl rfl ?_
    refine q_goto rfl ?_
    refine q_iret rfl rfl rfl ?_
    refine ⟨_, rfl, ?_⟩
    refine q_ifeq rfl rfl (fun c102 => absurd c102 (by decide)) (fun c102 => ?_)
    refine q_iconst rfl rfl ?_
    refine q_iret rfl rfl rfl ?_
    refine ⟨_, rfl, ?_⟩
    refine q_ifne rfl rfl (fun c103 => ?_) (fun c103 => absurd (by decide) c103)
    refine q_iconst rfl rfl ?_
    refine q_iret rfl rfl rfl ?_
    refine ⟨_, rfl, ?_⟩
    refine q_ifne rfl rfl (fun c104 => ?_) (fun c104 => absurd (by decide) c104)
    refine q_goto rfl ?_
    refine q_icc5 (z := 1) rfl rfl rfl rfl rfl ?_
    refine q_goto rfl ?_
    refine q_iload rfl rfl rfl ?_
    refine q_iconst rfl rfl ?_
    refine q_icge rfl rfl (fun c105 => absurd c105 (by decide)) (fun c105 => ?_)
    refine q_iconst rfl rfl ?_
    refine q_sipush rfl rfl ?_
    refine q_iload_n rfl rfl rfl ?_
    refine q_imul rfl rfl (q_tn (z := 0) rfl ?_)
    refine q_iload rfl rfl rfl ?_
    refine q_iadd rfl rfl (q_tn (z := 0) rfl ?_)
    refine q_imul rfl rfl (q_tn (z := 0) rfl ?_)
    refine q_iload rfl rfl rfl ?_
    refine q_iadd rfl rfl (q_tn (z := 1) rfl ?_)
    refine q_ist6 rfl rfl rfl rfl ?_
    refine q_aload_n rfl rfl rfl ?_
    refine q_getf rfl rfl (by decide) rfl rfl ?_
    refine q_iload rfl rfl rfl ?_
    refine q_iconst rfl rfl ?_
    refine q_iast rfl rfl (by decide) rfl (by decide) ?_
    refine q_aload_n rfl rfl rfl ?_
    refine q_iload_n rfl rfl rfl ?_
    refine q_iload rfl rfl rfl ?_
    refine q_cV2v rfl rfl (Or.inl rfl) rfl rfl rfl (by decide) rfl ⟨rfl, rfl⟩ rfl (fun K' hK' => l_sa (R := 0) (by decide) rfl (by decide) rfl rfl rfl rfl rfl hK') ?_
    refine q_iload rfl rfl rfl ?_
    refine q_aload_n rfl rfl rfl ?_
    refine q_getf rfl rfl (by decide) rfl rfl ?_
    refine q_icge rfl rfl (fun c106 => ?_) (fun c106 => absurd (by decide) c106)
    refine q_icc5 (z := 2) rfl rfl rfl rfl rfl ?_
    refine q_goto rfl ?_
    refine q_iload rfl rfl rfl ?_
    refine q_iconst rfl rfl ?_
    refine q_icge rfl rfl (fun c107 => absurd c107 (by decide)) (fun c107 => ?_)
    refine q_iconst rfl rfl ?_
    refine q_sipush rfl rfl ?_
    refine q_iload_n rfl rfl rfl ?_
    refine q_imul rfl rfl (q_tn (z := 0) rfl ?_)
    refine q_iload rfl rfl rfl ?_
    refine q_iadd rfl rfl (q_tn (z := 0) rfl ?_)
    refine q_imul rfl rfl (q_tn (z := 0) rfl ?_)
    refine q_iload rfl rfl rfl ?_
    refine q_iadd rfl rfl (q_tn (z := 2) rfl ?_)
    refine q_ist6 rfl rfl rfl rfl ?_
    refine q_aload_n rfl rfl rfl ?_
    refine q_getf rfl rfl (by decide) rfl rfl ?_
    refine q_iload rfl rfl rfl ?_
    refine q_iconst rfl rfl ?_
    refine q_iast rfl rfl (by decide) rfl (by decide) ?_
    refine q_aload_n rfl rfl rfl ?_
    refine q_iload_n rfl rfl rfl ?_
    refine q_iload rfl rfl rfl ?_
    refine q_cV2v rfl rfl (Or.inl rfl) rfl rfl rfl (by decide) rfl ⟨rfl, rfl⟩ rfl (fun K' hK' => l_sa (R := 0) (by decide) rfl (by decide) rfl rfl rfl rfl rfl hK') ?_
    refine q_iload rfl rfl rfl ?_
    refine q_aload_n rfl rfl rfl ?_
    refine q_getf rfl rfl (by decide) rfl rfl ?_
    refine q_icge rfl rfl (fun c108 => ?_) (fun c108 => absurd (by decide) c108)
    refine q_icc5 (z := 3) rfl rfl rfl rfl rfl ?_
    refine q_goto rfl ?_
    refine q_iload rfl rfl rfl ?_
    refine q_iconst rfl rfl ?_
    refine q_icge rfl rfl (fun c109 => ?_) (fun c109 => absurd (by decide) c109)
    refine q_icc4 (z := 1) rfl rfl rfl rfl rfl ?_
    refine q_goto rfl ?_
    refine q_iload rfl rfl rfl ?_
    refine q_aload_n rfl rfl rfl ?_
    refine q_getf rfl rfl (by decide) rfl rfl ?_
    refine q_iload_n rfl rfl rfl ?_
    refine q_iald rfl rfl (by decide) rfl (by decide) (q_tn (z := 1) rfl ?_)
    refine q_icge rfl rfl (fun c110 => ?_) (fun c110 => absurd (by decide) c110)
    refine q_iconst rfl rfl ?_
    refine q_iret rfl rfl rfl ?_
    refine ⟨_, rfl, ?_⟩
    refine q_ifeq rfl rfl (fun c111 => absurd c111 (by decide)) (fun c111 => ?_)
    refine q_iconst rfl rfl ?_
    refine q_goto rfl ?_
    refine q_iast rfl rfl (by decide) ((FM_62 hM).trans (FW_62 S hW)) (by decide) ?_
    refine q_iload_n rfl rfl rfl ?_
    refine q_ifne rfl rfl (fun c112 => ?_) (fun c112 => absurd (by decide) c112)
    refine q_aload_n rfl rfl rfl ?_
    refine q_iconst rfl rfl ?_
    refine q_putf rfl rfl (by decide) rfl (by decide) rfl rfl ?_
    refine q_aload_n rfl rfl rfl ?_
    refine q_getf rfl rfl (by decide) rfl rfl ?_
    refine q_iload_n rfl rfl rfl ?_
    refine q_aload_n rfl rfl rfl ?_
    refine q_getf rfl rfl (by decide) rfl rfl ?_
    refine q_iload_n rfl rfl rfl ?_
    refine q_iald rfl rfl (by decide) rfl (by decide) (q_tn (z := 1) rfl ?_)
    refine q_iast rfl rfl (by decide) ((FM_63 hM).trans (FW_63 S hW)) (by decide) ?_
    refine q_iconst rfl rfl ?_
    refine q_ist3n rfl rfl rfl rfl ?_
    refine q_iload_n rfl rfl rfl ?_
    refine q_iconst rfl rfl ?_
    refine q_icge rfl rfl (fun c113 => absurd c113 (by decide)) (fun c113 => ?_)
    refine q_aload_n rfl rfl rfl ?_
    refine q_getf rfl rfl (by decide) rfl rfl ?_
    refine q_iconst rfl rfl ?_
    refine q_iload_n rfl rfl rfl ?_
    refine q_imul rfl rfl (q_tn (z := 0) rfl ?_)
    refine q_iload_n rfl rfl rfl ?_
    refine q_iadd rfl rfl (q_tn (z := 0) rfl ?_)
    refine q_iconst rfl rfl ?_
    refine q_iast rfl rfl (by decide) ((FM_64 hM).trans (FW_64 S hW)) (by decide) ?_
    refine q_icc3 (z := 1) rfl rfl rfl rfl rfl ?_
    refine q_goto rfl ?_
    refine q_iload_n rfl rfl rfl ?_
    refine q_iconst rfl rfl ?_
    refine q_icge rfl rfl (fun c114 => absurd c114 (by decide)) (fun c114 => ?_)
    refine q_aload_n rfl rfl rfl ?_
    refine q_getf rfl rfl (by decide) rfl rfl ?_
    refine q_iconst rfl rfl ?_
    refine q_iload_n rfl rfl rfl ?_
    refine q_imul rfl rfl (q_tn (z := 0) rfl ?_)
    refine q_iload_n rfl rfl rfl ?_
    refine q_iadd rfl rfl (q_tn (z := 1) rfl ?_)
    refine q_iconst rfl rfl ?_
    refine q_iast rfl rfl (by decide) rfl (by decide) ?_
    refine q_icc3 (z := 2) rfl rfl rfl rfl rfl ?_
    refine q_goto rfl ?_
    refine q_iload_n rfl rfl rfl ?_
    refine q_iconst rfl rfl ?_
    refine q_icge rfl rfl (fun c115 => absurd c115 (by decide)) (fun c115 => ?_)
    refine q_aload_n rfl rfl rfl ?_
    refine q_getf rfl rfl (by decide) rfl rfl ?_
    refine q_iconst rfl rfl ?_
    refine q_iload_n rfl rfl rfl ?_
    refine q_imul rfl rfl (q_tn (z := 0) rfl ?_)
    refine q_iload_n rfl rfl rfl ?_
    refine q_iadd rfl rfl (q_tn (z := 2) rfl ?_)
    refine q_iconst rfl rfl ?_
    refine q_iast rfl rfl (by decide) rfl (by decide) ?_
    refine q_icc3 (z := 3) rfl rfl rfl rfl rfl ?_
    refine q_goto rfl ?_
    refine q_iload_n rfl rfl rfl ?_
    refine q_iconst rfl rfl ?_
    refine q_icge rfl rfl (fun c116 => absurd c116 (by decide)) (fun c116 => ?_)
    refine q_aload_n rfl rfl rfl ?_
    refine q_getf rfl rfl (by decide) rfl rfl ?_
    refine q_iconst rfl rfl ?_
    refine q_iload_n rfl rfl rfl ?_
    refine q_imul rfl rfl (q_tn (z := 0) rfl ?_)
    refine q_iload_n rfl rfl rfl ?_
    refine q_iadd rfl rfl (q_tn (z := 3) rfl ?_)
    refine q_iconst rfl rfl ?_
    refine q_iast rfl rfl (by decide) rfl (by decide) ?_
    refine q_icc3 (z := 4) rfl rfl rfl rfl rfl ?_
    refine q_goto rfl ?_
    refine q_iload_n rfl rfl rfl ?_
    refine q_iconst rfl rfl ?_
    refine q_icge rfl rfl (fun c117 => ?_) (fun c117 => absurd (by decide) c117)
    refine q_iconst rfl rfl ?_
    refine q_ist3n rfl rfl rfl rfl ?_
    refine q_iload_n rfl rfl rfl ?_
    refine q_aload_n rfl rfl rfl ?_
    refine q_getf rfl rfl (by decide) rfl rfl ?_
    refine q_iload_n rfl rfl rfl ?_
    refine q_iald rfl rfl (by decide) rfl (by decide) (q_tn (z := 1) rfl ?_)
    refine q_icge rfl rfl (fun c118 => absurd c118 (by decide)) (fun c118 => ?_)
    refine q_aload_n rfl rfl rfl ?_
    refine q_iload_n rfl rfl rfl ?_
    refine q_iload_n rfl rfl rfl ?_
    refine q_cV2v rfl rfl (Or.inl rfl) rfl rfl rfl (by decide) rfl ⟨rfl, rfl⟩ rfl (fun K' hK' => l_sa (R := 0) (by decide) rfl (by decide) rfl rfl rfl rfl rfl hK') ?_
    refine q_aload_n rfl rfl rfl ?_
    refine q_nV0 rfl rfl (Or.inl rfl) rfl rfl rfl (by decide) rfl ⟨rfl, rfl⟩ rfl ?_
    change PQ _ _ _ mm_X12_isEnd 0 [.ref 46, pm_un, pm_un] [] _ _ 0 0 _
    refine q_iconst rfl rfl ?_
    refine q_ist1n rfl rfl rfl rfl ?_
    refine q_iconst rfl rfl ?_
    refine q_ist2n rfl rfl rfl rfl ?_
    refine q_iload_n rfl rfl rfl ?_
    refine q_aload_n rfl rfl rfl ?_
    refine q_getf rfl rfl (by decide) rfl rfl ?_
    refine q_icge rfl rfl (fun c119 => absurd c119 (by decide)) (fun c119 => ?_)
    refine q_iload_n rfl rfl rfl ?_
    refine q_ifeq rfl rfl (fun c120 => absurd c120 (by decide)) (fun c120 => ?_)
    refine q_aload_n rfl rfl rfl ?_
    refine q_iload_n rfl rfl rfl ?_
    refine q_nV1 rfl rfl (Or.inl rfl) rfl rfl rfl (by decide) rfl ⟨rfl, rfl⟩ rfl ?_
    change PQ _ _ _ mm_X12_isOver 0 [.ref 46, .int 0] [] _ _ 0 0 _
    refine q_aload_n rfl rfl rfl ?_
    refine q_getf rfl rfl (by decide) rfl rfl ?_
    refine q_iconst rfl rfl ?_
    refine q_iload_n rfl rfl rfl ?_
    refine q_imul rfl rfl (q_tn (z := 0) rfl ?_)
    refine q_iald rfl rfl (by decide) rfl (by decide) (q_tn (z := 10) rfl ?_)
    refine q_bipush rfl rfl ?_
    refine q_iclt rfl rfl (fun c121 => absurd c121 (by decide)) (fun c121 => ?_)
    refine q_iconst rfl rfl ?_
    refine q_goto rfl ?_
    refine q_iret rfl rfl rfl ?_
    refine ⟨_, rfl, ?_⟩
    refine q_ifeq rfl rfl (fun c122 => absurd c122 (by decide)) (fun c122 => ?_)
    refine q_iconst rfl rfl ?_
    refine q_goto rfl ?_
    refine q_ist1n rfl rfl rfl rfl ?_
    refine q_icc2 (z := 1) rfl rfl rfl rfl rfl ?_
    refine q_goto rfl ?_
    refine q_iload_n rfl rfl rfl ?_
    refine q_aload_n rfl rfl rfl ?_
    refine q_getf rfl rfl (by decide) rfl rfl ?_
    refine q_icge rfl rfl (fun c123 => ?_) (fun c123 => absurd (by decide) c123)
    refine q_iload_n rfl rfl rfl ?_
    refine q_iret rfl rfl rfl ?_
    refine ⟨_, rfl, ?_⟩
    refine q_ifne rfl rfl (fun c124 => absurd c124 (by decide)) (fun c124 => ?_)
    refine q_iconst rfl rfl ?_
    refine q_ist4 rfl rfl rfl rfl ?_
    refine q_iload rfl rfl rfl ?_
    refine q_iconst rfl rfl ?_
    refine q_icge rfl rfl (fun c125 => absurd c125 (by decide)) (fun c125 => ?_)
    refine q_aload_n rfl rfl rfl ?_
    refine q_getf rfl rfl (by decide) rfl rfl ?_
    refine q_iconst rfl rfl ?_
    refine q_iload_n rfl rfl rfl ?_
    refine q_imul rfl rfl (q_tn (z := 0) rfl ?_)
    refine q_iload rfl rfl rfl ?_
    refine q_iadd rfl rfl (q_tn (z := 0) rfl ?_)
    refine q_dup2 rfl rfl ?_
    refine q_iald rfl rfl (by decide) rfl (by decide) (q_tn (z := 0) rfl ?_)
    refine q_iconst rfl rfl ?_
    refine q_aload_n rfl rfl rfl ?_
    refine q_getf rfl rfl (by decide) rfl rfl ?_
    refine q_bipush rfl rfl ?_
    refine q_iload rfl rfl rfl ?_
    refine q_iadd rfl rfl (q_tn (z := 12) rfl ?_)
    refine q_iald rfl rfl (by decide) rfl (by decide) (q_tn (z := 0) rfl ?_)
    refine q_ishl rfl rfl (q_tn (z := 1) rfl ?_)
    refine q_ior rfl rfl (q_tn (z := 1) rfl ?_)
    refine q_iast rfl rfl (by decide) rfl (by decide) ?_
    refine q_icc4 (z := 1) rfl rfl rfl rfl rfl ?_
    refine q_goto rfl ?_
    refine q_iload rfl rfl rfl ?_
    refine q_iconst rfl rfl ?_
    refine q_icge rfl rfl (fun c126 => absurd c126 (by decide)) (fun c126 => ?_)
    refine q_aload_n rfl rfl rfl ?_
    refine q_getf rfl rfl (by decide) rfl rfl ?_
    refine q_iconst rfl rfl ?_
    refine q_iload_n rfl rfl rfl ?_
    refine q_imul rfl rfl (q_tn (z := 0) rfl ?_)
    refine q_iload rfl rfl rfl ?_
    refine q_iadd rfl rfl (q_tn (z := 1) rfl ?_)
    refine q_dup2 rfl rfl ?_
    refine q_iald rfl rfl (by decide) rfl (by decide) (q_tn (z := 0) rfl ?_)
    refine q_iconst rfl rfl ?_
    refine q_aload_n rfl rfl rfl ?_
    refine q_getf rfl rfl (by decide) rfl rfl ?_
    refine q_bipush rfl rfl ?_
    refine q_iload rfl rfl rfl ?_
    refine q_iadd rfl rfl (q_tn (z := 13) rfl ?_)
    refine q_iald rfl rfl (by decide) rfl (by decide) (q_tn (z := 0) rfl ?_)
    refine q_ishl rfl rfl (q_tn (z := 1) rfl ?_)
    refine q_ior rfl rfl (q_tn (z := 1) rfl ?_)
    refine q_iast rfl rfl (by decide) rfl (by decide) ?_
    refine q_icc4 (z := 2) rfl rfl rfl rfl rfl ?_
    refine q_goto rfl ?_
    refine q_iload rfl rfl rfl ?_
    refine q_iconst rfl rfl ?_
    refine q_icge rfl rfl (fun c127 => absurd c127 (by decide)) (fun c127 => ?_)
    refine q_aload_n rfl rfl rfl ?_
    refine q_getf rfl rfl (by decide) rfl rfl ?_
    refine q_iconst rfl rfl ?_
    refine q_iload_n rfl rfl rfl ?_
    refine q_imul rfl rfl (q_tn (z := 0) rfl ?_)
    refine q_iload rfl rfl rfl ?_
    refine q_iadd rfl rfl (q_tn (z := 2) rfl ?_)
    refine q_dup2 rfl rfl ?_
    refine q_iald rfl rfl (by decide) rfl (by decide) (q_tn (z := 0) rfl ?_)
    refine q_iconst rfl rfl ?_
    refine q_aload_n rfl rfl rfl ?_
    refine q_getf rfl rfl (by decide) rfl rfl ?_
    refine q_bipush rfl rfl ?_
    refine q_iload rfl rfl rfl ?_
    refine q_iadd rfl rfl (q_tn (z := 14) rfl ?_)
    refine q_iald rfl rfl (by decide) rfl (by decide) (q_tn (z := 0) rfl ?_)
    refine q_ishl rfl rfl (q_tn (z := 1) rfl ?_)
    refine q_ior rfl rfl (q_tn (z := 1) rfl ?_)
    refine q_iast rfl rfl (by decide) rfl (by decide) ?_
    refine q_icc4 (z := 3) rfl rfl rfl rfl rfl ?_
    refine q_goto rfl ?_
    refine q_iload rfl rfl rfl ?_
    refine q_iconst rfl rfl ?_
    refine q_icge rfl rfl (fun c128 => absurd c128 (by decide)) (fun c128 => ?_)
    refine q_aload_n rfl rfl rfl ?_
    refine q_getf rfl rfl (by decide) rfl rfl ?_
    refine q_iconst rfl rfl ?_
    refine q_iload_n rfl rfl rfl ?_
    refine q_imul rfl rfl (q_tn (z := 0) rfl ?_)
    refine q_iload rfl rfl rfl ?_
    refine q_iadd rfl rfl (q_tn (z := 3) rfl ?_)
    refine q_dup2 rfl rfl ?_
    refine q_iald rfl rfl (by decide) rfl (by decide) (q_tn (z := 0) rfl ?_)
    refine q_iconst rfl rfl ?_
    refine q_aload_n rfl rfl rfl ?_
    refine q_getf rfl rfl (by decide) rfl rfl ?_
    refine q_bipush rfl rfl ?_
    refine q_iload rfl rfl rfl ?_
    refine q_iadd rfl rfl (q_tn (z := 15) rfl ?_)
    refine q_iald rfl rfl (by decide) rfl (by decide) (q_tn (z := 0) rfl ?_)
    refine q_ishl rfl rfl (q_tn (z := 1) rfl ?_)
    refine q_ior rfl rfl (q_tn (z := 1) rfl ?_)
    refine q_iast rfl rfl (by decide) rfl (by decide) ?_
    refine q_icc4 (z := 4) rfl rfl rfl rfl rfl ?_
    refine q_goto rfl ?_
    refine q_iload rfl rfl rfl ?_
    refine q_iconst rfl rfl ?_
    refine q_icge rfl rfl (fun c129 => ?_) (fun c129 => absurd (by decide) c129)
    refine q_icc3 (z := 1) rfl rfl rfl rfl rfl ?_
    refine q_goto rfl ?_
    refine q_iload_n rfl rfl rfl ?_
    refine q_aload_n rfl rfl rfl ?_
    refine q_getf rfl rfl (by decide) rfl rfl ?_
    refine q_iload_n rfl rfl rfl ?_
    refine q_iald rfl rfl (by decide) rfl (by decide) (q_tn (z := 1) rfl ?_)
    refine q_icge rfl rfl (fun c130 => ?_) (fun c130 => absurd (by decide) c130)
    refine q_aload_n rfl rfl rfl ?_
    refine q_getf rfl rfl (by decide) rfl rfl ?_
    refine q_iload_n rfl rfl rfl ?_
    refine q_iald rfl rfl (by decide) rfl (by decide) (q_tn (z := 1) rfl ?_)
    refine q_iconst rfl rfl ?_
    refine q_icne rfl rfl (fun c131 => absurd c131 (by decide)) (fun c131 => ?_)
    refine q_iconst rfl rfl ?_
    refine q_iret rfl rfl rfl ?_
    refine ⟨_, rfl, ?_⟩
    refine q_ifne rfl rfl (fun c132 => ?_) (fun c132 => absurd (by decide) c132)
    refine q_iload_n rfl rfl rfl ?_
    refine q_ifeq rfl rfl (fun c133 => ?_) (fun c133 => absurd (by decide) c133)
    refine q_iconst rfl rfl ?_
    refine q_ist1n rfl rfl rfl rfl ?_
    refine q_icc2 (z := 1) rfl rfl rfl rfl rfl ?_
    refine q_goto rfl ?_
    refine q_iload_n rfl rfl rfl ?_
    refine q_iconst rfl rfl ?_
    refine q_icge rfl rfl (fun c134 => absurd c134 (by decide)) (fun c134 => ?_)
    refine q_aload_n rfl rfl rfl ?_
    refine q_iload_n rfl rfl rfl ?_
    refine q_nV1 rfl rfl (Or.inl rfl) rfl rfl rfl (by decide) rfl ⟨rfl, rfl⟩ rfl ?_
    change PQ _ _ _ mm_X12_isSpent 0 [.ref 46, .int 1, pm_un, pm_un, pm_un] [] _ _ 0 0 _
    refine q_iload_n rfl rfl rfl ?_
    refine q_ifne rfl rfl (fun c135 => absurd c135 (by decide)) (fun c135 => ?_)
    refine q_iconst rfl rfl ?_
    refine q_ist2n rfl rfl rfl rfl ?_
    refine q_aload_n rfl rfl rfl ?_
    refine q_iconst rfl rfl ?_
    refine q_putf rfl rfl (by decide) rfl (by decide) rfl trivial ?_
    refine q_aload_n rfl rfl rfl ?_
    refine q_getf rfl rfl (by decide) rfl rfl ?_
    refine q_iload_n rfl rfl rfl ?_
    refine q_iald rfl rfl (by decide) rfl (by decide) (q_tn (z := 0) rfl ?_)
    refine q_ifeq rfl rfl (fun c136 => ?_) (fun c136 => absurd (by decide) c136)
    refine q_aload_n rfl rfl rfl ?_
    refine q_getf rfl rfl (by decide) rfl rfl ?_
    refine q_iload_n rfl rfl rfl ?_
    refine q_aload_n rfl rfl rfl ?_
    refine q_iload_n rfl rfl rfl ?_
    refine q_iload_n rfl rfl rfl ?_
    refine q_nV2 rfl rfl (Or.inl rfl) rfl rfl rfl (by decide) rfl ⟨rfl, rfl⟩ rfl ?_
    change PQ _ _ _ mm_X12_explore 0 [.ref 46, .int 1, .int 1, pm_un, pm_un, pm_un, pm_un, pm_un] [] _ _ 0 0 _
    refine q_iconst rfl rfl ?_
    refine q_ist3n rfl rfl rfl rfl ?_
    refine l_net (R := 1) (by decide) rfl (by decide) rfl rfl rfl ?_
    refine q_aload_n rfl rfl rfl ?_
    refine q_getf rfl rfl (by decide) rfl rfl ?_
    refine q_iload_n rfl rfl rfl ?_
    refine q_iconst rfl rfl ?_
    refine q_iast rfl rfl (by decide) rfl (by decide) ?_
    refine q_aload_n rfl rfl rfl ?_
    refine q_nV0v rfl rfl (Or.inl rfl) rfl rfl rfl (by decide) rfl ⟨rfl, rfl⟩ rfl ?_
    change PQ _ _ _ mm_X12_firstState 0 [.ref 46, pm_un] [] _ _ 0 0 _
    refine q_iconst rfl rfl ?_
    refine q_ist1n rfl rfl rfl rfl ?_
    refine q_iload_n rfl rfl rfl ?_
    refine q_bipush rfl rfl ?_
    refine q_icge rfl rfl (fun c137 => absurd c137 (by decide)) (fun c137 => ?_)
    refine q_aload_n rfl rfl rfl ?_
    refine q_getf rfl rfl (by decide) rfl rfl ?_
    refine q_iload_n rfl rfl rfl ?_
    refine q_iconst rfl rfl ?_
    refine q_iast rfl rfl (by decide) rfl (by decide) ?_
    refine q_icc1 (z := 1) rfl rfl rfl rfl rfl ?_
    refine q_goto rfl ?_
    refine q_iload_n rfl rfl rfl ?_
    refine q_bipush rfl rfl ?_
    refine q_icge rfl rfl (fun c138 => absurd c138 (by decide)) (fun c138 => ?_)
    refine q_aload_n rfl rfl rfl ?_
    refine q_getf rfl rfl (by decide) rfl rfl ?_
    refine q_iload_n rfl rfl rfl ?_
    refine q_iconst rfl rfl ?_
    refine q_iast rfl rfl (by decide) rfl (by decide) ?_
    refine q_icc1 (z := 2) rfl rfl rfl rfl rfl ?_
    refine q_goto rfl ?_
    refine q_iload_n rfl rfl rfl ?_
    refine q_bipush rfl rfl ?_
    refine q_icge rfl rfl (fun c139 => absurd c139 (by decide)) (fun c139 => ?_)
    refine q_aload_n rfl rfl rfl ?_
    refine q_getf rfl rfl (by decide) rfl rfl ?_
    refine q_iload_n rfl rfl rfl ?_
    refine q_iconst rfl rfl ?_
    refine q_iast rfl rfl (by decide) rfl (by decide) ?_
    refine q_icc1 (z := 3) rfl rfl rfl rfl rfl ?_
    refine q_goto rfl ?_
    refine q_iload_n rfl rfl rfl ?_
    refine q_bipush rfl rfl ?_
    refine q_icge rfl rfl (fun c140 => absurd c140 (by decide)) (fun c140 => ?_)
    refine q_aload_n rfl rfl rfl ?_
    refine q_getf rfl rfl (by decide) rfl rfl ?_
    refine q_iload_n rfl rfl rfl ?_
    refine q_iconst rfl rfl ?_
    refine q_iast rfl rfl (by decide) rfl (by decide) ?_
    refine q_icc1 (z := 4) rfl rfl rfl rfl rfl ?_
    refine q_goto rfl ?_
    refine q_iload_n rfl rfl rfl ?_
    refine q_bipush rfl rfl ?_
    refine q_icge rfl rfl (fun c141 => absurd c141 (by decide)) (fun c141 => ?_)
    refine q_aload_n rfl rfl rfl ?_
    refine q_getf rfl rfl (by decide) rfl rfl ?_
    refine q_iload_n rfl rfl rfl ?_
    refine q_iconst rfl rfl ?_
    refine q_iast rfl rfl (by decide) rfl (by decide) ?_
    refine q_icc1 (z := 5) rfl rfl rfl rfl rfl ?_
    refine q_goto rfl ?_
    refine q_iload_n rfl rfl rfl ?_
    refine q_bipush rfl rfl ?_
    refine q_icge rfl rfl (fun c142 => absurd c142 (by decide)) (fun c142 => ?_)
    refine q_aload_n rfl rfl rfl ?_
    refine q_getf rfl rfl (by decide) rfl rfl ?_
    refine q_iload_n rfl rfl rfl ?_
    refine q_iconst rfl rfl ?_
    refine q_iast rfl rfl (by decide) rfl (by decide) ?_
    refine q_icc1 (z := 6) rfl rfl rfl rfl rfl ?_
    refine q_goto rfl ?_
    refine q_iload_n rfl rfl rfl ?_
    refine q_bipush rfl rfl ?_
    refine q_icge rfl rfl (fun c143 => absurd c143 (by decide)) (fun c143 => ?_)
    refine q_aload_n rfl rfl rfl ?_
    refine q_getf rfl rfl (by decide) rfl rfl ?_
    refine q_iload_n rfl rfl rfl ?_
    refine q_iconst rfl rfl ?_
    refine q_iast rfl rfl (by decide) rfl (by decide) ?_
    refine q_icc1 (z := 7) rfl rfl rfl rfl rfl ?_
    refine q_goto rfl ?_
    refine q_iload_n rfl rfl rfl ?_
    refine q_bipush rfl rfl ?_
    refine q_icge rfl rfl (fun c144 => absurd c144 (by decide)) (fun c144 => ?_)
    refine q_aload_n rfl rfl rfl ?_
    refine q_getf rfl rfl (by decide) rfl rfl ?_
    refine q_iload_n rfl rfl rfl ?_
    refine q_iconst rfl rfl ?_
    refine q_iast rfl rfl (by decide) rfl (by decide) ?_
    refine q_icc1 (z := 8) rfl rfl rfl rfl rfl ?_
    refine q_goto rfl ?_
    refine q_iload_n rfl rfl rfl ?_
    refine q_bipush rfl rfl ?_
    refine q_icge rfl rfl (fun c145 => absurd c145 (by decide)) (fun c145 => ?_)
    refine q_aload_n rfl rfl rfl ?_
    refine q_getf rfl rfl (by decide) rfl rfl ?_
    refine q_iload_n rfl rfl rfl ?_
    refine q_iconst rfl rfl ?_
    refine q_iast rfl rfl (by decide) rfl (by decide) ?_
    refine q_icc1 (z := 9) rfl rfl rfl rfl rfl ?_
    refine q_goto rfl ?_
    refine q_iload_n rfl rfl rfl ?_
    refine q_bipush rfl rfl ?_
    refine q_icge rfl rfl (fun c146 => absurd c146 (by decide)) (fun c146 => ?_)
    refine q_aload_n rfl rfl rfl ?_
    refine q_getf rfl rfl (by decide) rfl rfl ?_
    refine q_iload_n rfl rfl rfl ?_
    refine q_iconst rfl rfl ?_
    refine q_iast rfl rfl (by decide) rfl (by decide) ?_
    refine q_icc1 (z := 10) rfl rfl rfl rfl rfl ?_
    refine q_goto rfl ?_
    refine q_iload_n rfl rfl rfl ?_
    refine q_bipush rfl rfl ?_
    refine q_icge rfl rfl (fun c147 => absurd c147 (by decide)) (fun c147 => ?_)
    refine q_aload_n rfl rfl rfl ?_
    refine q_getf rfl rfl (by decide) rfl rfl ?_
    refine q_iload_n rfl rfl rfl ?_
    refine q_iconst rfl rfl ?_
    refine q_iast rfl rfl (by decide) rfl (by decide) ?_
    refine q_icc1 (z := 11) rfl rfl rfl rfl rfl ?_
    refine q_goto rfl ?_
    refine q_iload_n rfl rfl rfl ?_
    refine q_bipush rfl rfl ?_
    refine q_icge rfl rfl (fun c148 => absurd c148 (by decide)) (fun c148 => ?_)
    refine q_aload_n rfl rfl rfl ?_
    refine q_getf rfl rfl (by decide) rfl rfl ?_
    refine q_iload_n rfl rfl rfl ?_
    refine q_iconst rfl rfl ?_
    refine q_iast rfl rfl (by decide) rfl (by decide) ?_
    refine q_icc1 (z := 12) rfl rfl rfl rfl rfl ?_
    refine q_goto rfl ?_
    refine q_iload_n rfl rfl rfl ?_
    refine q_bipush rfl rfl ?_
    refine q_icge rfl rfl (fun c149 => absurd c149 (by decide)) (fun c149 => ?_)
    refine q_aload_n rfl rfl rfl ?_
    refine q_getf rfl rfl (by decide) rfl rfl ?_
    refine q_iload_n rfl rfl rfl ?_
    refine q_iconst rfl rfl ?_
    refine q_iast rfl rfl (by decide) rfl (by decide) ?_
    refine q_icc1 (z := 13) rfl rfl rfl rfl rfl ?_
    refine q_goto rfl ?_
    refine q_iload_n rfl rfl rfl ?_
    refine q_bipush rfl rfl ?_
    refine q_icge rfl rfl (fun c150 => absurd c150 (by decide)) (fun c150 => ?_)
    refine q_aload_n rfl rfl rfl ?_
    refine q_getf rfl rfl (by decide) rfl rfl ?_
    refine q_iload_n rfl rfl rfl ?_
    refine q_iconst rfl rfl ?_
    refine q_iast rfl rfl (by decide) rfl (by decide) ?_
    refine q_icc1 (z := 14) rfl rfl rfl rfl rfl ?_
    refine q_goto rfl ?_
    refine q_iload_n rfl rfl rfl ?_
    refine q_bipush rfl rfl ?_
    refine q_icge rfl rfl (fun c151 => absurd c151 (by decide)) (fun c151 => ?_)
    refine q_aload_n rfl rfl rfl ?_
    refine q_getf rfl rfl (by decide) rfl rfl ?_
    refine q_iload_n rfl rfl rfl ?_
    refine q_iconst rfl rfl ?_
    refine q_iast rfl rfl (by decide) rfl (by decide) ?_
    refine q_icc1 (z := 15) rfl rfl rfl rfl rfl ?_
    refine q_goto rfl ?_
    refine q_iload_n rfl rfl rfl ?_
    refine q_bipush rfl rfl ?_
    refine q_icge rfl rfl (fun c152 => absurd c152 (by decide)) (fun c152 => ?_)
    refine q_aload_n rfl rfl rfl ?_
    refine q_getf rfl rfl (by decide) rfl rfl ?_
    refine q_iload_n rfl rfl rfl ?_
    refine q_iconst rfl rfl ?_
    refine q_iast rfl rfl (by decide) rfl (by decide) ?_
    refine q_icc1 (z := 16) rfl rfl rfl rfl rfl ?_
    refine q_goto rfl ?_
    refine q_iload_n rfl rfl rfl ?_
    refine q_bipush rfl rfl ?_
    refine q_icge rfl rfl (fun c153 => absurd c153 (by decide)) (fun c153 => ?_)
    refine q_aload_n rfl rfl rfl ?_
    refine q_getf rfl rfl (by decide) rfl rfl ?_
    refine q_iload_n rfl rfl rfl ?_
    refine q_iconst rfl rfl ?_
    refine q_iast rfl rfl (by decide) rfl (by decide) ?_
    refine q_icc1 (z := 17) rfl rfl rfl rfl rfl ?_
    refine q_goto rfl ?_
    refine q_iload_n rfl rfl rfl ?_
    refine q_bipush rfl rfl ?_
    refine q_icge rfl rfl (fun c154 => absurd c154 (by decide)) (fun c154 => ?_)
    refine q_aload_n rfl rfl rfl ?_
    refine q_getf rfl rfl (by decide) rfl rfl ?_
    refine q_iload_n rfl rfl rfl ?_
    refine q_iconst rfl rfl ?_
    refine q_iast rfl rfl (by decide) rfl (by decide) ?_
    refine q_icc1 (z := 18) rfl rfl rfl rfl rfl ?_
    refine q_goto rfl ?_
    refine q_iload_n rfl rfl rfl ?_
    refine q_bipush rfl rfl ?_
    refine q_icge rfl rfl (fun c155 => absurd c155 (by decide)) (fun c155 => ?_)
    refine q_aload_n rfl rfl rfl ?_
    refine q_getf rfl rfl (by decide) rfl rfl ?_
    refine q_iload_n rfl rfl rfl ?_
    refine q_iconst rfl rfl ?_
    refine q_iast rfl rfl (by decide) rfl (by decide) ?_
    refine q_icc1 (z := 19) rfl rfl rfl rfl rfl ?_
    refine q_goto rfl ?_
    refine q_iload_n rfl rfl rfl ?_
    refine q_bipush rfl rfl ?_
    refine q_icge rfl rfl (fun c156 => absurd c156 (by decide)) (fun c156 => ?_)
    refine q_aload_n rfl rfl rfl ?_
    refine q_getf rfl rfl (by decide) rfl rfl ?_
    refine q_iload_n rfl rfl rfl ?_
    refine q_iconst rfl rfl ?_
    refine q_iast rfl rfl (by decide) rfl (by decide) ?_
    refine q_icc1 (z := 20) rfl rfl rfl rfl rfl ?_
    refine q_goto rfl ?_
    refine q_iload_n rfl rfl rfl ?_
    refine q_bipush rfl rfl ?_
    refine q_icge rfl rfl (fun c157 => ?_) (fun c157 => absurd (by decide) c157)
    refine q_iconst rfl rfl ?_
    refine q_ist1n rfl rfl rfl rfl ?_
    refine q_iload_n rfl rfl rfl ?_
    refine q_aload_n rfl rfl rfl ?_
    refine q_getf rfl rfl (by decide) rfl rfl ?_
    refine q_icge rfl rfl (fun c158 => absurd c158 (by decide)) (fun c158 => ?_)
    refine q_aload_n rfl rfl rfl ?_
    refine q_getf rfl rfl (by decide) rfl rfl ?_
    refine q_iconst rfl rfl ?_
    refine q_iload_n rfl rfl rfl ?_
    refine q_imul rfl rfl (q_tn (z := 0) rfl ?_)
    refine q_aload_n rfl rfl rfl ?_
    refine q_getf rfl rfl (by decide) rfl rfl ?_
    refine q_aload_n rfl rfl rfl ?_
    refine q_getf rfl rfl (by decide) rfl rfl ?_
    refine q_iload_n rfl rfl rfl ?_
    refine q_iadd rfl rfl (q_tn (z := 0) rfl ?_)
    refine q_iald rfl rfl (by decide) ((FM_47 hM).trans (FW_47 S hW)) (by decide) (q_tn (z := 0) rfl ?_)
    refine q_ifne rfl rfl (fun c159 => ?_) (fun c159 => absurd (by decide) c159)
    refine q_bipush rfl rfl ?_
    refine q_goto rfl ?_
    refine q_iast rfl rfl (by decide) rfl (by decide) ?_
    refine q_icc1 (z := 1) rfl rfl rfl rfl rfl ?_
    refine q_goto rfl ?_
    refine q_iload_n rfl rfl rfl ?_
    refine q_aload_n rfl rfl rfl ?_
    refine q_getf rfl rfl (by decide) rfl rfl ?_
    refine q_icge rfl rfl (fun c160 => ?_) (fun c160 => absurd (by decide) c160)
    refine q_iconst rfl rfl ?_
    refine q_ist1n rfl rfl rfl rfl ?_
    refine q_iload_n rfl rfl rfl ?_
    refine q_iconst rfl rfl ?_
    refine q_icge rfl rfl (fun c161 => absurd c161 (by decide)) (fun c161 => ?_)
    refine q_aload_n rfl rfl rfl ?_
    refine q_getf rfl rfl (by decide) rfl rfl ?_
    refine q_bipush rfl rfl ?_
    refine q_iload_n rfl rfl rfl ?_
    refine q_iadd rfl rfl (q_tn (z := 12) rfl ?_)
    refine q_aload_n rfl rfl rfl ?_
    refine q_getf rfl rfl (by decide) rfl rfl ?_
    refine q_iload_n rfl rfl rfl ?_
    refine q_iald rfl rfl (by decide) ((FM_51 hM).trans (FW_51 S hW)) (by decide) (q_tn (z := 0) rfl ?_)
    refine q_iast rfl rfl (by decide) rfl (by decide) ?_
    refine q_icc1 (z := 1) rfl rfl rfl rfl rfl ?_
    refine q_goto rfl ?_
    refine q_iload_n rfl rfl rfl ?_
    refine q_iconst rfl rfl ?_
    refine q_icge rfl rfl (fun c162 => absurd c162 (by decide)) (fun c162 => ?_)
    refine q_aload_n rfl rfl rfl ?_
    refine q_getf rfl rfl (by decide) rfl rfl ?_
    refine q_bipush rfl rfl ?_
    refine q_iload_n rfl rfl rfl ?_
    refine q_iadd rfl rfl (q_tn (z := 13) rfl ?_)
    refine q_aload_n rfl rfl rfl ?_
    refine q_getf rfl rfl (by decide) rfl rfl ?_
    refine q_iload_n rfl rfl rfl ?_
    refine q_iald rfl rfl (by decide) ((FM_51 hM).trans (FW_51 S hW)) (by decide) (q_tn (z := 0) rfl ?_)
    refine q_iast rfl rfl (by decide) rfl (by decide) ?_
    refine q_icc1 (z := 2) rfl rfl rfl rfl rfl ?_
    refine q_goto rfl ?_
    refine q_iload_n rfl rfl rfl ?_
    refine q_iconst rfl rfl ?_
    refine q_icge rfl rfl (fun c163 => absurd c163 (by decide)) (fun c163 => ?_)
    refine q_aload_n rfl rfl rfl ?_
    refine q_getf rfl rfl (by decide) rfl rfl ?_
    refine q_bipush rfl rfl ?_
    refine q_iload_n rfl rfl rfl ?_
    refine q_iadd rfl rfl (q_tn (z := 14) rfl ?_)
    refine q_aload_n rfl rfl rfl ?_
    refine q_getf rfl rfl (by decide) rfl rfl ?_
    refine q_iload_n rfl rfl rfl ?_
    refine q_iald rfl rfl (by decide) ((FM_51 hM).trans (FW_51 S hW)) (by decide) (q_tn (z := 0) rfl ?_)
    refine q_iast rfl rfl (by decide) rfl (by decide) ?_
    refine q_icc1 (z := 3) rfl rfl rfl rfl rfl ?_
    refine q_goto rfl ?_
    refine q_iload_n rfl rfl rfl ?_
    refine q_iconst rfl rfl ?_
    refine q_icge rfl rfl (fun c164 => absurd c164 (by decide)) (fun c164 => ?_)
    refine q_aload_n rfl rfl rfl ?_
    refine q_getf rfl rfl (by decide) rfl rfl ?_
    refine q_bipush rfl rfl ?_
    refine q_iload_n rfl rfl rfl ?_
    refine q_iadd rfl rfl (q_tn (z := 15) rfl ?_)
    refine q_aload_n rfl rfl rfl ?_
    refine q_getf rfl rfl (by decide) rfl rfl ?_
    refine q_iload_n rfl rfl rfl ?_
    refine q_iald rfl rfl (by decide) ((FM_51 hM).trans (FW_51 S hW)) (by decide) (q_tn (z := 0) rfl ?_)
    refine q_iast rfl rfl (by decide) rfl (by decide) ?_
    refine q_icc1 (z := 4) rfl rfl rfl rfl rfl ?_
    refine q_goto rfl ?_
    refine q_iload_n rfl rfl rfl ?_
    refine q_iconst rfl rfl ?_
    refine q_icge rfl rfl (fun c165 => ?_) (fun c165 => absurd (by decide) c165)
    refine q_ret rfl rfl ?_
    refine ⟨rfl, ?_⟩
    refine q_iconst rfl rfl ?_
    refine q_ist3n rfl rfl rfl rfl ?_
    refine q_iload_n rfl rfl rfl ?_
    refine q_bipush rfl rfl ?_
    refine q_icge rfl rfl (fun c166 => absurd c166 (by decide)) (fun c166 => ?_)
    refine q_aload_n rfl rfl rfl ?_
    refine q_getf rfl rfl (by decide) rfl rfl ?_
    refine q_iload_n rfl rfl rfl ?_
    refine q_aload_n rfl rfl rfl ?_
    refine q_getf rfl rfl (by decide) rfl rfl ?_
    refine q_iload_n rfl rfl rfl ?_
    refine q_iald rfl rfl (by decide) rfl (by decide) (q_tn (z := 10) rfl ?_)
    refine q_iast rfl rfl (by decide) rfl (by decide) ?_
    refine q_icc3 (z := 1) rfl rfl rfl rfl rfl ?_
    refine q_goto rfl ?_
    refine q_iload_n rfl rfl rfl ?_
    refine q_bipush rfl rfl ?_
    refine q_icge rfl rfl (fun c167 => absurd c167 (by decide)) (fun c167 => ?_)
    refine q_aload_n rfl rfl rfl ?_
    refine q_getf rfl rfl (by decide) rfl rfl ?_
    refine q_iload_n rfl rfl rfl ?_
    refine q_aload_n rfl rfl rfl ?_
    refine q_getf rfl rfl (by decide) rfl rfl ?_
    refine q_iload_n rfl rfl rfl ?_
    refine q_iald rfl rfl (by decide) rfl (by decide) (q_tn (z := 0) rfl ?_)
    refine q_iast rfl rfl (by decide) rfl (by decide) ?_
    refine q_icc3 (z := 2) rfl rfl rfl rfl rfl ?_
    refine q_goto rfl ?_
    refine q_iload_n rfl rfl rfl ?_
    refine q_bipush rfl rfl ?_
    refine q_icge rfl rfl (fun c168 => absurd c168 (by decide)) (fun c168 => ?_)
    refine q_aload_n rfl rfl rfl ?_
    refine q_getf rfl rfl (by decide) rfl rfl ?_
    refine q_iload_n rfl rfl rfl ?_
    refine q_aload_n rfl rfl rfl ?_
    refine q_getf rfl rfl (by decide) rfl rfl ?_
    refine q_iload_n rfl rfl rfl ?_
    refine q_iald rfl rfl (by decide) rfl (by decide) (q_tn (z := 0) rfl ?_)
    refine q_iast rfl rfl (by decide) rfl (by decide) ?_
    refine q_icc3 (z := 3) rfl rfl rfl rfl rfl ?_
    refine q_goto rfl ?_
    refine q_iload_n rfl rfl rfl ?_
    refine q_bipush rfl rfl ?_
    refine q_icge rfl rfl (fun c169 => absurd c169 (by decide)) (fun c169 => ?_)
    refine q_aload_n rfl rfl rfl ?_
    refine q_getf rfl rfl (by decide) rfl rfl ?_
    refine q_iload_n rfl rfl rfl ?_
    refine q_aload_n rfl rfl rfl ?_
    refine q_getf rfl rfl (by decide) rfl rfl ?_
    refine q_iload_n rfl rfl rfl ?_
    refine q_iald rfl rfl (by decide) rfl (by decide) (q_tn (z := 0) rfl ?_)
    refine q_iast rfl rfl (by decide) rfl (by decide) ?_
    refine q_icc3 (z := 4) rfl rfl rfl rfl rfl ?_
    refine q_goto rfl ?_
    refine q_iload_n rfl rfl rfl ?_
    refine q_bipush rfl rfl ?_
    refine q_icge rfl rfl (fun c170 => absurd c170 (by decide)) (fun c170 => ?_)
    refine q_aload_n rfl rfl rfl ?_
    refine q_getf rfl rfl (by decide) rfl rfl ?_
    refine q_iload_n rfl rfl rfl ?_
    refine q_aload_n rfl rfl rfl ?_
    refine q_getf rfl rfl (by decide) rfl rfl ?_
    refine q_iload_n rfl rfl rfl ?_
    refine q_iald rfl rfl (by decide) rfl (by decide) (q_tn (z := 0) rfl ?_)
    refine q_iast rfl rfl (by decide) rfl (by decide) ?_
    refine q_icc3 (z := 5) rfl rfl rfl rfl rfl ?_
    refine q_goto rfl ?_
    refine q_iload_n rfl rfl rfl ?_
    refine q_bipush rfl rfl ?_
    refine q_icge rfl rfl (fun c171 => absurd c171 (by decide)) (fun c171 => ?_)
    refine q_aload_n rfl rfl rfl ?_
    refine q_getf rfl rfl (by decide) rfl rfl ?_
    refine q_iload_n rfl rfl rfl ?_
    refine q_aload_n rfl rfl rfl ?_
    refine q_getf rfl rfl (by decide) rfl rfl ?_
    refine q_iload_n rfl rfl rfl ?_
    refine q_iald rfl rfl (by decide) rfl (by decide) (q_tn (z := 0) rfl ?_)
    refine q_iast rfl rfl (by decide) rfl (by decide) ?_
    refine q_icc3 (z := 6) rfl rfl rfl rfl rfl ?_
    refine q_goto rfl ?_
    refine q_iload_n rfl rfl rfl ?_
    refine q_bipush rfl rfl ?_
    refine q_icge rfl rfl (fun c172 => absurd c172 (by decide)) (fun c172 => ?_)
    refine q_aload_n rfl rfl rfl ?_
    refine q_getf rfl rfl (by decide) rfl rfl ?_
    refine q_iload_n rfl rfl rfl ?_
    refine q_aload_n rfl rfl rfl ?_
    refine q_getf rfl rfl (by decide) rfl rfl ?_
    refine q_iload_n rfl rfl rfl ?_
    refine q_iald rfl rfl (by decide) rfl (by decide) (q_tn (z := 0) rfl ?_)
    refine q_iast rfl rfl (by decide) rfl (by decide) ?_
    refine q_icc3 (z := 7) rfl rfl rfl rfl rfl ?_
    refine q_goto rfl ?_
    refine q_iload_n rfl rfl rfl ?_
    refine q_bipush rfl rfl ?_
    refine q_icge rfl rfl (fun c173 => absurd c173 (by decide)) (fun c173 => ?_)
    refine q_aload_n rfl rfl rfl ?_
    refine q_getf rfl rfl (by decide) rfl rfl ?_
    refine q_iload_n rfl rfl rfl ?_
    refine q_aload_n rfl rfl rfl ?_
    refine q_getf rfl rfl (by decide) rfl rfl ?_
    refine q_iload_n rfl rfl rfl ?_
    refine q_iald rfl rfl (by decide) rfl (by decide) (q_tn (z := 0) rfl ?_)
    refine q_iast rfl rfl (by decide) rfl (by decide) ?_
    refine q_icc3 (z := 8) rfl rfl rfl rfl rfl ?_
    refine q_goto rfl ?_
    refine q_iload_n rfl rfl rfl ?_
    refine q_bipush rfl rfl ?_
    refine q_icge rfl rfl (fun c174 => absurd c174 (by decide)) (fun c174 => ?_)
    refine q_aload_n rfl rfl rfl ?_
    refine q_getf rfl rfl (by decide) rfl rfl ?_
    refine q_iload_n rfl rfl rfl ?_
    refine q_aload_n rfl rfl rfl ?_
    refine q_getf rfl rfl (by decide) rfl rfl ?_
    refine q_iload_n rfl rfl rfl ?_
    refine q_iald rfl rfl (by decide) rfl (by decide) (q_tn (z := 0) rfl ?_)
    refine q_iast rfl rfl (by decide) rfl (by decide) ?_
    refine q_icc3 (z := 9) rfl rfl rfl rfl rfl ?_
    refine q_goto rfl ?_
    refine q_iload_n rfl rfl rfl ?_
    refine q_bipush rfl rfl ?_
    refine q_icge rfl rfl (fun c175 => absurd c175 (by decide)) (fun c175 => ?_)
    refine q_aload_n rfl rfl rfl ?_
    refine q_getf rfl rfl (by decide) rfl rfl ?_
    refine q_iload_n rfl rfl rfl ?_
    refine q_aload_n rfl rfl rfl ?_
    refine q_getf rfl rfl (by decide) rfl rfl ?_
    refine q_iload_n rfl rfl rfl ?_
    refine q_iald rfl rfl (by decide) rfl (by decide) (q_tn (z := 0) rfl ?_)
    refine q_iast rfl rfl (by decide) rfl (by decide) ?_
    refine q_icc3 (z := 10) rfl rfl rfl rfl rfl ?_
    refine q_goto rfl ?_
    refine q_iload_n rfl rfl rfl ?_
    refine q_bipush rfl rfl ?_
    refine q_icge rfl rfl (fun c176 => absurd c176 (by decide)) (fun c176 => ?_)
    refine q_aload_n rfl rfl rfl ?_
    refine q_getf rfl rfl (by decide) rfl rfl ?_
    refine q_iload_n rfl rfl rfl ?_
    refine q_aload_n rfl rfl rfl ?_
    refine q_getf rfl rfl (by decide) rfl rfl ?_
    refine q_iload_n rfl rfl rfl ?_
    refine q_iald rfl rfl (by decide) rfl (by decide) (q_tn (z := 0) rfl ?_)
    refine q_iast rfl rfl (by decide) rfl (by decide) ?_
    refine q_icc3 (z := 11) rfl rfl rfl rfl rfl ?_
    refine q_goto rfl ?_
    refine q_iload_n rfl rfl rfl ?_
    refine q_bipush rfl rfl ?_
    refine q_icge rfl rfl (fun c177 => absurd c177 (by decide)) (fun c177 => ?_)
    refine q_aload_n rfl rfl rfl ?_
    refine q_getf rfl rfl (by decide) rfl rfl ?_
    refine q_iload_n rfl rfl rfl ?_
    refine q_aload_n rfl rfl rfl ?_
    refine q_getf rfl rfl (by decide) rfl rfl ?_
    refine q_iload_n rfl rfl rfl ?_
    refine q_iald rfl rfl (by decide) rfl (by decide) (q_tn (z := 0) rfl ?_)
    refine q_iast rfl rfl (by decide) rfl (by decide) ?_
    refine q_icc3 (z := 12) rfl rfl rfl rfl rfl ?_
    refine q_goto rfl ?_
    refine q_iload_n rfl rfl rfl ?_
    refine q_bipush rfl rfl ?_
    refine q_icge rfl rfl (fun c178 => absurd c178 (by decide)) (fun c178 => ?_)
    refine q_aload_n rfl rfl rfl ?_
    refine q_getf rfl rfl (by decide) rfl rfl ?_
    refine q_iload_n rfl rfl rfl ?_
    refine q_aload_n rfl rfl rfl ?_
    refine q_getf rfl rfl (by decide) rfl rfl ?_
    refine q_iload_n rfl rfl rfl ?_
    refine q_iald rfl rfl (by decide) rfl (by decide) (q_tn (z := 0) rfl ?_)
    refine q_iast rfl rfl (by decide) rfl (by decide) ?_
    refine q_icc3 (z := 13) rfl rfl rfl rfl rfl ?_
    refine q_goto rfl ?_
    refine q_iload_n rfl rfl rfl ?_
    refine q_bipush rfl rfl ?_
    refine q_icge rfl rfl (fun c179 => absurd c179 (by decide)) (fun c179 => ?_)
    refine q_aload_n rfl rfl rfl ?_
    refine q_getf rfl rfl (by decide) rfl rfl ?_
    refine q_iload_n rfl rfl rfl ?_
    refine q_aload_n rfl rfl rfl ?_
    refine q_getf rfl rfl (by decide) rfl rfl ?_
    refine q_iload_n rfl rfl rfl ?_
    refine q_iald rfl rfl (by decide) rfl (by decide) (q_tn (z := 0) rfl ?_)
    refine q_iast rfl rfl (by decide) rfl (by decide) ?_
    refine q_icc3 (z := 14) rfl rfl rfl rfl rfl ?_
    refine q_goto rfl ?_
    refine q_iload_n rfl rfl rfl ?_
    refine q_bipush rfl rfl ?_
    refine q_icge rfl rfl (fun c180 => absurd c180 (by decide)) (fun c180 => ?_)
    refine q_aload_n rfl rfl rfl ?_
    refine q_getf rfl rfl (by decide) rfl rfl ?_
    refine q_iload_n rfl rfl rfl ?_
    refine q_aload_n rfl rfl rfl ?_
    refine q_getf rfl rfl (by decide) rfl rfl ?_
    refine q_iload_n rfl rfl rfl ?_
    refine q_iald rfl rfl (by decide) rfl (by decide) (q_tn (z := 0) rfl ?_)
    refine q_iast rfl rfl (by decide) rfl (by decide) ?_
    refine q_icc3 (z := 15) rfl rfl rfl rfl rfl ?_
    refine q_goto rfl ?_
    refine q_iload_n rfl rfl rfl ?_
    refine q_bipush rfl rfl ?_
    refine q_icge rfl rfl (fun c181 => absurd c181 (by decide)) (fun c181 => ?_)
    refine q_aload_n rfl rfl rfl ?_
    refine q_getf rfl rfl (by decide) rfl rfl ?_
    refine q_iload_n rfl rfl rfl ?_
    refine q_aload_n rfl rfl rfl ?_
    refine q_getf rfl rfl (by decide) rfl rfl ?_
    refine q_iload_n rfl rfl rfl ?_
    refine q_iald rfl rfl (by decide) rfl (by decide) (q_tn (z := 0) rfl ?_)
    refine q_iast rfl rfl (by decide) rfl (by decide) ?_
    refine q_icc3 (z := 16) rfl rfl rfl rfl rfl ?_
    refine q_goto rfl ?_
    refine q_iload_n rfl rfl rfl ?_
    refine q_bipush rfl rfl ?_
    refine q_icge rfl rfl (fun c182 => absurd c182 (by decide)) (fun c182 => ?_)
    refine q_aload_n rfl rfl rfl ?_
    refine q_getf rfl rfl (by decide) rfl rfl ?_
    refine q_iload_n rfl rfl rfl ?_
    refine q_aload_n rfl rfl rfl ?_
    refine q_getf rfl rfl (by decide) rfl rfl ?_
    refine q_iload_n rfl rfl rfl ?_
    refine q_iald rfl rfl (by decide) rfl (by decide) (q_tn (z := 0) rfl ?_)
    refine q_iast rfl rfl (by decide) rfl (by decide) ?_
    refine q_icc3 (z := 17) rfl rfl rfl rfl rfl ?_
    refine q_goto rfl ?_
    refine q_iload_n rfl rfl rfl ?_
    refine q_bipush rfl rfl ?_
    refine q_icge rfl rfl (fun c183 => absurd c183 (by decide)) (fun c183 => ?_)
    refine q_aload_n rfl rfl rfl ?_
    refine q_getf rfl rfl (by decide) rfl rfl ?_
    refine q_iload_n rfl rfl rfl ?_
    refine q_aload_n rfl rfl rfl ?_
    refine q_getf rfl rfl (by decide) rfl rfl ?_
    refine q_iload_n rfl rfl rfl ?_
    refine q_iald rfl rfl (by decide) rfl (by decide) (q_tn (z := 0) rfl ?_)
    refine q_iast rfl rfl (by decide) rfl (by decide) ?_
    refine q_icc3 (z := 18) rfl rfl rfl rfl rfl ?_
    refine q_goto rfl ?_
    refine q_iload_n rfl rfl rfl ?_
    refine q_bipush rfl rfl ?_
    refine q_icge rfl rfl (fun c184 => absurd c184 (by decide)) (fun c184 => ?_)
    refine q_aload_n rfl rfl rfl ?_
    refine q_getf rfl rfl (by decide) rfl rfl ?_
    refine q_iload_n rfl rfl rfl ?_
    refine q_aload_n rfl rfl rfl ?_
    refine q_getf rfl rfl (by decide) rfl rfl ?_
    refine q_iload_n rfl rfl rfl ?_
    refine q_iald rfl rfl (by decide) rfl (by decide) (q_tn (z := 0) rfl ?_)
    refine q_iast rfl rfl (by decide) rfl (by decide) ?_
    refine q_icc3 (z := 19) rfl rfl rfl rfl rfl ?_
    refine q_goto rfl ?_
    refine q_iload_n rfl rfl rfl ?_
    refine q_bipush rfl rfl ?_
    refine q_icge rfl rfl (fun c185 => absurd c185 (by decide)) (fun c185 => ?_)
    refine q_aload_n rfl rfl rfl ?_
    refine q_getf rfl rfl (by decide) rfl rfl ?_
    refine q_iload_n rfl rfl rfl ?_
    refine q_aload_n rfl rfl rfl ?_
    refine q_getf rfl rfl (by decide) rfl rfl ?_
    refine q_iload_n rfl rfl rfl ?_
    refine q_iald rfl rfl (by decide) rfl (by decide) (q_tn (z := 0) rfl ?_)
    refine q_iast rfl rfl (by decide) rfl (by decide) ?_
    refine q_icc3 (z := 20) rfl rfl rfl rfl rfl ?_
    refine q_goto rfl ?_
    refine q_iload_n rfl rfl rfl ?_
    refine q_bipush rfl rfl ?_
    refine q_icge rfl rfl (fun c186 => ?_) (fun c186 => absurd (by decide) c186)
    refine q_aload_n rfl rfl rfl ?_
    refine q_iload_n rfl rfl rfl ?_
    refine q_iconst rfl rfl ?_
    refine q_iconst rfl rfl ?_
    refine q_nV3 rfl rfl (Or.inl rfl) rfl rfl rfl (by decide) rfl ⟨rfl, rfl⟩ rfl ?_
    change PQ _ _ _ mm_X12_put 0 [.ref 46, .int 1, .int (-1), .int (-1), pm_un, pm_un, pm_un] [] _ _ 0 0 _
    refine q_aload_n rfl rfl rfl ?_
    refine q_getf rfl rfl (by decide) rfl rfl ?_
    refine q_iload_n rfl rfl rfl ?_
    refine q_iald rfl rfl (by decide) rfl (by decide) (q_tn (z := 0) rfl ?_)
    refine q_ist4 rfl rfl rfl rfl ?_
    refine q_iload rfl rfl rfl ?_
    refine q_sipush rfl rfl ?_
    refine q_icne rfl rfl (fun c187 => absurd c187 (by decide)) (fun c187 => ?_)
    refine q_sipush rfl rfl ?_
    refine q_iload_n rfl rfl rfl ?_
    refine q_imul rfl rfl (q_tn (z := 2000) rfl ?_)
    refine q_iload rfl rfl rfl ?_
    refine q_iadd rfl rfl (q_tn (z := 2000) rfl ?_)
    refine q_ist5 rfl rfl rfl rfl ?_
    refine q_iconst rfl rfl ?_
    refine q_ist6 rfl rfl rfl rfl ?_
    refine q_iload rfl rfl rfl ?_
    refine q_bipush rfl rfl ?_
    refine q_icge rfl rfl (fun c188 => absurd c188 (by decide)) (fun c188 => ?_)
    refine q_aload_n rfl rfl rfl ?_
    refine q_getf rfl rfl (by decide) rfl rfl ?_
    refine q_bipush rfl rfl ?_
    refine q_iload rfl rfl rfl ?_
    refine q_imul rfl rfl (q_tn (z := 40000) rfl ?_)
    refine q_iload rfl rfl rfl ?_
    refine q_iadd rfl rfl (q_tn (z := 40000) rfl ?_)
    refine q_aload_n rfl rfl rfl ?_
    refine q_getf rfl rfl (by decide) rfl rfl ?_
    refine q_iload rfl rfl rfl ?_
    refine q_iald rfl rfl (by decide) rfl (by decide) (q_tn (z := 10) rfl ?_)
    refine q_iast rfl rfl (by decide) rfl (by decide) ?_
    refine q_icc6 (z := 1) rfl rfl rfl rfl rfl ?_
    refine q_goto rfl ?_
    refine q_iload rfl rfl rfl ?_
    refine q_bipush rfl rfl ?_
    refine q_icge rfl rfl (fun c189 => absurd c189 (by decide)) (fun c189 => ?_)
    refine q_aload_n rfl rfl rfl ?_
    refine q_getf rfl rfl (by decide) rfl rfl ?_
    refine q_bipush rfl rfl ?_
    refine q_iload rfl rfl rfl ?_
    refine q_imul rfl rfl (q_tn (z := 40000) rfl ?_)
    refine q_iload rfl rfl rfl ?_
    refine q_iadd rfl rfl (q_tn (z := 40001) rfl ?_)
    refine q_aload_n rfl rfl rfl ?_
    refine q_getf rfl rfl (by decide) rfl rfl ?_
    refine q_iload rfl rfl rfl ?_
    refine q_iald rfl rfl (by decide) rfl (by decide) (q_tn (z := 0) rfl ?_)
    refine q_iast rfl rfl (by decide) rfl (by decide) ?_
    refine q_icc6 (z := 2) rfl rfl rfl rfl rfl ?_
    refine q_goto rfl ?_
    refine q_iload rfl rfl rfl ?_
    refine q_bipush rfl rfl ?_
    refine q_icge rfl rfl (fun c190 => absurd c190 (by decide)) (fun c190 => ?_)
    refine q_aload_n rfl rfl rfl ?_
    as_aux_lemma =>
      refine q_getf rfl rfl (by decide) rfl rfl ?_
      refine q_bipush rfl rfl ?_
      refine q_iload rfl rfl rfl ?_
      refine q_imul rfl rfl (q_tn (z := 40000) rfl ?_)
      refine q_iload rfl rfl rfl ?_
      refine q_iadd rfl rfl (q_tn (z := 40002) rfl ?_)
      refine q_aload_n rfl rfl rfl ?_
      refine q_getf rfl rfl (by decide) rfl rfl ?_
      refine q_iload rfl rfl rfl ?_
      refine q_iald rfl rfl (by decide) rfl (by decide) (q_tn (z := 0) rfl ?_)
      refine q_iast rfl rfl (by decide) rfl (by decide) ?_
      refine q_icc6 (z := 3) rfl rfl rfl rfl rfl ?_
      refine q_goto rfl ?_
      refine q_iload rfl rfl rfl ?_
      refine q_bipush rfl rfl ?_
      refine q_icge rfl rfl (fun c191 => absurd c191 (by decide)) (fun c191 => ?_)
      refine q_aload_n rfl rfl rfl ?_
      refine q_getf rfl rfl (by decide) rfl rfl ?_
      refine q_bipush rfl rfl ?_
      refine q_iload rfl rfl rfl ?_
      refine q_imul rfl rfl (q_tn (z := 40000) rfl ?_)
      refine q_iload rfl rfl rfl ?_
      refine q_iadd rfl rfl (q_tn (z := 40003) rfl ?_)
      refine q_aload_n rfl rfl rfl ?_
      refine q_getf rfl rfl (by decide) rfl rfl ?_
      refine q_iload rfl rfl rfl ?_
      refine q_iald rfl rfl (by decide) rfl (by decide) (q_tn (z := 0) rfl ?_)
      refine q_iast rfl rfl (by decide) rfl (by decide) ?_
      refine q_icc6 (z := 4) rfl rfl rfl rfl rfl ?_
      refine q_goto rfl ?_
      refine q_iload rfl rfl rfl ?_
      refine q_bipush rfl rfl ?_
      refine q_icge rfl rfl (fun c192 => absurd c192 (by decide)) (fun c192 => ?_)
      refine q_aload_n rfl rfl rfl ?_
      refine q_getf rfl rfl (by decide) rfl rfl ?_
      refine q_bipush rfl rfl ?_
      refine q_iload rfl rfl rfl ?_
      refine q_imul rfl rfl (q_tn (z := 40000) rfl ?_)
      refine q_iload rfl rfl rfl ?_
      refine q_iadd rfl rfl (q_tn (z := 40004) rfl ?_)
      refine q_aload_n rfl rfl rfl ?_
      refine q_getf rfl rfl (by decide) rfl rfl ?_
      refine q_iload rfl rfl rfl ?_
      refine q_iald rfl rfl (by decide) rfl (by decide) (q_tn (z := 0) rfl ?_)
      refine q_iast rfl rfl (by decide) rfl (by decide) ?_
      refine q_icc6 (z := 5) rfl rfl rfl rfl rfl ?_
      refine q_goto rfl ?_
      refine q_iload rfl rfl rfl ?_
      refine q_bipush rfl rfl ?_
      refine q_icge rfl rfl (fun c193 => absurd c193 (by decide)) (fun c193 => ?_)
      refine q_aload_n rfl rfl rfl ?_
      refine q_getf rfl rfl (by decide) rfl rfl ?_
      refine q_bipush rfl rfl ?_
      refine q_iload rfl rfl rfl ?_
      refine q_imul rfl rfl (q_tn (z := 40000) rfl ?_)
      refine q_iload rfl rfl rfl ?_
      refine q_iadd rfl rfl (q_tn (z := 40005) rfl ?_)
      refine q_aload_n rfl rfl rfl ?_
      refine q_getf rfl rfl (by decide) rfl rfl ?_
      refine q_iload rfl rfl rfl ?_
      refine q_iald rfl rfl (by decide) rfl (by decide) (q_tn (z := 0) rfl ?_)
      refine q_iast rfl rfl (by decide) rfl (by decide) ?_
      refine q_icc6 (z := 6) rfl rfl rfl rfl rfl ?_
      refine q_goto rfl ?_
      refine q_iload rfl rfl rfl ?_
      refine q_bipush rfl rfl ?_
      refine q_icge rfl rfl (fun c194 => absurd c194 (by decide)) (fun c194 => ?_)
      refine q_aload_n rfl rfl rfl ?_
      refine q_getf rfl rfl (by decide) rfl rfl ?_
      refine q_bipush rfl rfl ?_
      refine q_iload rfl rfl rfl ?_
      refine q_imul rfl rfl (q_tn (z := 40000) rfl ?_)
      refine q_iload rfl rfl rfl ?_
      refine q_iadd rfl rfl (q_tn (z := 40006) rfl ?_)
      refine q_aload_n rfl rfl rfl ?_
      refine q_getf rfl rfl (by decide) rfl rfl ?_
      refine q_iload rfl rfl rfl ?_
      refine q_iald rfl rfl (by decide) rfl (by decide) (q_tn (z := 0) rfl ?_)
      refine q_iast rfl rfl (by decide) rfl (by decide) ?_
      refine q_icc6 (z := 7) rfl rfl rfl rfl rfl ?_
      refine q_goto rfl ?_
      refine q_iload rfl rfl rfl ?_
      refine q_bipush rfl rfl ?_
      refine q_icge rfl rfl (fun c195 => absurd c195 (by decide)) (fun c195 => ?_)
      refine q_aload_n rfl rfl rfl ?_
      refine q_getf rfl rfl (by decide) rfl rfl ?_
      refine q_bipush rfl rfl ?_
      refine q_iload rfl rfl rfl ?_
      refine q_imul rfl rfl (q_tn (z := 40000) rfl ?_)
      refine q_iload rfl rfl rfl ?_
      refine q_iadd rfl rfl (q_tn (z := 40007) rfl ?_)
      refine q_aload_n rfl rfl rfl ?_
      refine q_getf rfl rfl (by decide) rfl rfl ?_
      refine q_iload rfl rfl rfl ?_
      refine q_iald rfl rfl (by decide) rfl (by decide) (q_tn (z := 0) rfl ?_)
      refine q_iast rfl rfl (by decide) rfl (by decide) ?_
      refine q_icc6 (z := 8) rfl rfl rfl rfl rfl ?_
      refine q_goto rfl ?_
      refine q_iload rfl rfl rfl ?_
      refine q_bipush rfl rfl ?_
      refine q_icge rfl rfl (fun c196 => absurd c196 (by decide)) (fun c196 => ?_)
      refine q_aload_n rfl rfl rfl ?_
      refine q_getf rfl rfl (by decide) rfl rfl ?_
      refine q_bipush rfl rfl ?_
      refine q_iload rfl rfl rfl ?_
      refine q_imul rfl rfl (q_tn (z := 40000) rfl ?_)
      refine q_iload rfl rfl rfl ?_
      refine q_iadd rfl rfl (q_tn (z := 40008) rfl ?_)
      refine q_aload_n rfl rfl rfl ?_
      refine q_getf rfl rfl (by decide) rfl rfl ?_
      refine q_iload rfl rfl rfl ?_
      refine q_iald rfl rfl (by decide) rfl (by decide) (q_tn (z := 0) rfl ?_)
      refine q_iast rfl rfl (by decide) rfl (by decide) ?_
      refine q_icc6 (z := 9) rfl rfl rfl rfl rfl ?_
      refine q_goto rfl ?_
      refine q_iload rfl rfl rfl ?_
      refine q_bipush rfl rfl ?_
      refine q_icge rfl rfl (fun c197 => absurd c197 (by decide)) (fun c197 => ?_)
      refine q_aload_n rfl rfl rfl ?_
      refine q_getf rfl rfl (by decide) rfl rfl ?_
      refine q_bipush rfl rfl ?_
      refine q_iload rfl rfl rfl ?_
      refine q_imul rfl rfl (q_tn (z := 40000) rfl ?_)
      refine q_iload rfl rfl rfl ?_
      refine q_iadd rfl rfl (q_tn (z := 40009) rfl ?_)
      refine q_aload_n rfl rfl rfl ?_
      refine q_getf rfl rfl (by decide) rfl rfl ?_
      refine q_iload rfl rfl rfl ?_
      refine q_iald rfl rfl (by decide) rfl (by decide) (q_tn (z := 0) rfl ?_)
      refine q_iast rfl rfl (by decide) rfl (by decide) ?_
      refine q_icc6 (z := 10) rfl rfl rfl rfl rfl ?_
      refine q_goto rfl ?_
      refine q_iload rfl rfl rfl ?_
      refine q_bipush rfl rfl ?_
      refine q_icge rfl rfl (fun c198 => absurd c198 (by decide)) (fun c198 => ?_)
      refine q_aload_n rfl rfl rfl ?_
      refine q_getf rfl rfl (by decide) rfl rfl ?_
      refine q_bipush rfl rfl ?_
      refine q_iload rfl rfl rfl ?_
      refine q_imul rfl rfl (q_tn (z := 40000) rfl ?_)
      refine q_iload rfl rfl rfl ?_
      refine q_iadd rfl rfl (q_tn (z := 40010) rfl ?_)
      refine q_aload_n rfl rfl rfl ?_
      refine q_getf rfl rfl (by decide) rfl rfl ?_
      refine q_iload rfl rfl rfl ?_
      refine q_iald rfl rfl (by decide) rfl (by decide) (q_tn (z := 0) rfl ?_)
      refine q_iast rfl rfl (by decide) rfl (by decide) ?_
      refine q_icc6 (z := 11) rfl rfl rfl rfl rfl ?_
      refine q_goto rfl ?_
      refine q_iload rfl rfl rfl ?_
      refine q_bipush rfl rfl ?_
      refine q_icge rfl rfl (fun c199 => absurd c199 (by decide)) (fun c199 => ?_)
      refine q_aload_n rfl rfl rfl ?_
      refine q_getf rfl rfl (by decide) rfl rfl ?_
      refine q_bipush rfl rfl ?_
      refine q_iload rfl rfl rfl ?_
      refine q_imul rfl rfl (q_tn (z := 40000) rfl ?_)
      refine q_iload rfl rfl rfl ?_
      refine q_iadd rfl rfl (q_tn (z := 40011) rfl ?_)
      refine q_aload_n rfl rfl rfl ?_
      refine q_getf rfl rfl (by decide) rfl rfl ?_
      refine q_iload rfl rfl rfl ?_
      refine q_iald rfl rfl (by decide) rfl (by decide) (q_tn (z := 0) rfl ?_)
      refine q_iast rfl rfl (by decide) rfl (by decide) ?_
      refine q_icc6 (z := 12) rfl rfl rfl rfl rfl ?_
      refine q_goto rfl ?_
      refine q_iload rfl rfl rfl ?_
      refine q_bipush rfl rfl ?_
      refine q_icge rfl rfl (fun c200 => absurd c200 (by decide)) (fun c200 => ?_)
      refine q_aload_n rfl rfl rfl ?_
      refine q_getf rfl rfl (by decide) rfl rfl ?_
      refine q_bipush rfl rfl ?_
      refine q_iload rfl rfl rfl ?_
      refine q_imul rfl rfl (q_tn (z := 40000) rfl ?_)
      refine q_iload rfl rfl rfl ?_
      refine q_iadd rfl rfl (q_tn (z := 40012) rfl ?_)
      refine q_aload_n rfl rfl rfl ?_
      refine q_getf rfl rfl (by decide) rfl rfl ?_
      refine q_iload rfl rfl rfl ?_
      refine q_iald rfl rfl (by decide) rfl (by decide) (q_tn (z := 0) rfl ?_)
      refine q_iast rfl rfl (by decide) rfl (by decide) ?_
      refine q_icc6 (z := 13) rfl rfl rfl rfl rfl ?_
      refine q_goto rfl ?_
      refine q_iload rfl rfl rfl ?_
      refine q_bipush rfl rfl ?_
      refine q_icge rfl rfl (fun c201 => absurd c201 (by decide)) (fun c201 => ?_)
      refine q_aload_n rfl rfl rfl ?_
      refine q_getf rfl rfl (by decide) rfl rfl ?_
      refine q_bipush rfl rfl ?_
      refine q_iload rfl rfl rfl ?_
      refine q_imul rfl rfl (q_tn (z := 40000) rfl ?_)
      refine q_iload rfl rfl rfl ?_
      refine q_iadd rfl rfl (q_tn (z := 40013) rfl ?_)
      refine q_aload_n rfl rfl rfl ?_
      refine q_getf rfl rfl (by decide) rfl rfl ?_
      refine q_iload rfl rfl rfl ?_
      refine q_iald rfl rfl (by decide) rfl (by decide) (q_tn (z := 0) rfl ?_)
      refine q_iast rfl rfl (by decide) rfl (by decide) ?_
      refine q_icc6 (z := 14) rfl rfl rfl rfl rfl ?_
      refine q_goto rfl ?_
      refine q_iload rfl rfl rfl ?_
      refine q_bipush rfl rfl ?_
      refine q_icge rfl rfl (fun c202 => absurd c202 (by decide)) (fun c202 => ?_)
      refine q_aload_n rfl rfl rfl ?_
      refine q_getf rfl rfl (by decide) rfl rfl ?_
      refine q_bipush rfl rfl ?_
      refine q_iload rfl rfl rfl ?_
      refine q_imul rfl rfl (q_tn (z := 40000) rfl ?_)
      refine q_iload rfl rfl rfl ?_
      refine q_iadd rfl rfl (q_tn (z := 40014) rfl ?_)
      refine q_aload_n rfl rfl rfl ?_
      refine q_getf rfl rfl (by decide) rfl rfl ?_
      refine q_iload rfl rfl rfl ?_
      refine q_iald rfl rfl (by decide) rfl (by decide) (q_tn (z := 0) rfl ?_)
      refine q_iast rfl rfl (by decide) rfl (by decide) ?_
      refine q_icc6 (z := 15) rfl rfl rfl rfl rfl ?_
      refine q_goto rfl ?_
      refine q_iload rfl rfl rfl ?_
      refine q_bipush rfl rfl ?_
      refine q_icge rfl rfl (fun c203 => absurd c203 (by decide)) (fun c203 => ?_)
      refine q_aload_n rfl rfl rfl ?_
      refine q_getf rfl rfl (by decide) rfl rfl ?_
      refine q_bipush rfl rfl ?_
      refine q_iload rfl rfl rfl ?_
      refine q_imul rfl rfl (q_tn (z := 40000) rfl ?_)
      refine q_iload rfl rfl rfl ?_
      refine q_iadd rfl rfl (q_tn (z := 40015) rfl ?_)
      refine q_aload_n rfl rfl rfl ?_
      refine q_getf rfl rfl (by decide) rfl rfl ?_
      refine q_iload rfl rfl rfl ?_
      refine q_iald rfl rfl (by decide) rfl (by decide) (q_tn (z := 0) rfl ?_)
      refine q_iast rfl rfl (by decide) rfl (by decide) ?_
      refine q_icc6 (z := 16) rfl rfl rfl rfl rfl ?_
      refine q_goto rfl ?_
      refine q_iload rfl rfl rfl ?_
      refine q_bipush rfl rfl ?_
      refine q_icge rfl rfl (fun c204 => absurd c204 (by decide)) (fun c204 => ?_)
      refine q_aload_n rfl rfl rfl ?_
      refine q_getf rfl rfl (by decide) rfl rfl ?_
      refine q_bipush rfl rfl ?_
      refine q_iload rfl rfl rfl ?_
      refine q_imul rfl rfl (q_tn (z := 40000) rfl ?_)
      refine q_iload rfl rfl rfl ?_
      refine q_iadd rfl rfl (q_tn (z := 40016) rfl ?_)
      refine q_aload_n rfl rfl rfl ?_
      refine q_getf rfl rfl (by decide) rfl rfl ?_
      refine q_iload rfl rfl rfl ?_
      refine q_iald rfl rfl (by decide) rfl (by decide) (q_tn (z := 0) rfl ?_)
      refine q_iast rfl rfl (by decide) rfl (by decide) ?_
      refine q_icc6 (z := 17) rfl rfl rfl rfl rfl ?_
      refine q_goto rfl ?_
      refine q_iload rfl rfl rfl ?_
      refine q_bipush rfl rfl ?_
      refine q_icge rfl rfl (fun c205 => absurd c205 (by decide)) (fun c205 => ?_)
      refine q_aload_n rfl rfl rfl ?_
      refine q_getf rfl rfl (by decide) rfl rfl ?_
      refine q_bipush rfl rfl ?_
      refine q_iload rfl rfl rfl ?_
      refine q_imul rfl rfl (q_tn (z := 40000) rfl ?_)
      refine q_iload rfl rfl rfl ?_
      refine q_iadd rfl rfl (q_tn (z := 40017) rfl ?_)
      refine q_aload_n rfl rfl rfl ?_
      refine q_getf rfl rfl (by decide) rfl rfl ?_
      refine q_iload rfl rfl rfl ?_
      refine q_iald rfl rfl (by decide) rfl (by decide) (q_tn (z := 0) rfl ?_)
      refine q_iast rfl rfl (by decide) rfl (by decide) ?_
      refine q_icc6 (z := 18) rfl rfl rfl rfl rfl ?_
      refine q_goto rfl ?_
      refine q_iload rfl rfl rfl ?_
      refine q_bipush rfl rfl ?_
      refine q_icge rfl rfl (fun c206 => absurd c206 (by decide)) (fun c206 => ?_)
      refine q_aload_n rfl rfl rfl ?_
      refine q_getf rfl rfl (by decide) rfl rfl ?_
      refine q_bipush rfl rfl ?_
      refine q_iload rfl rfl rfl ?_
      refine q_imul rfl rfl (q_tn (z := 40000) rfl ?_)
      refine q_iload rfl rfl rfl ?_
      refine q_iadd rfl rfl (q_tn (z := 40018) rfl ?_)
      refine q_aload_n rfl rfl rfl ?_
      refine q_getf rfl rfl (by decide) rfl rfl ?_
      refine q_iload rfl rfl rfl ?_
      refine q_iald rfl rfl (by decide) rfl (by decide) (q_tn (z := 0) rfl ?_)
      refine q_iast rfl rfl (by decide) rfl (by decide) ?_
      refine q_icc6 (z := 19) rfl rfl rfl rfl rfl ?_
      refine q_goto rfl ?_
      refine q_iload rfl rfl rfl ?_
      refine q_bipush rfl rfl ?_
      refine q_icge rfl rfl (fun c207 => absurd c207 (by decide)) (fun c207 => ?_)
      refine q_aload_n rfl rfl rfl ?_
      refine q_getf rfl rfl (by decide) rfl rfl ?_
      refine q_bipush rfl rfl ?_
      refine q_iload rfl rfl rfl ?_
      refine q_imul rfl rfl (q_tn (z := 40000) rfl ?_)
      refine q_iload rfl rfl rfl ?_
      refine q_iadd rfl rfl (q_tn (z := 40019) rfl ?_)
      refine q_aload_n rfl rfl rfl ?_
      refine q_getf rfl rfl (by decide) rfl rfl ?_
      refine q_iload rfl rfl rfl ?_
      refine q_iald rfl rfl (by decide) rfl (by decide) (q_tn (z := 0) rfl ?_)
      refine q_iast rfl rfl (by decide) rfl (by decide) ?_
      refine q_icc6 (z := 20) rfl rfl rfl rfl rfl ?_
      refine q_goto rfl ?_
      refine q_iload rfl rfl rfl ?_
      refine q_bipush rfl rfl ?_
      refine q_icge rfl rfl (fun c208 => ?_) (fun c208 => absurd (by decide) c208)
      refine q_aload_n rfl rfl rfl ?_
      refine q_getf rfl rfl (by decide) rfl rfl ?_
      refine q_iload rfl rfl rfl ?_
      refine q_iload_n rfl rfl rfl ?_
      refine q_iast rfl rfl (by decide) rfl (by decide) ?_
      refine q_aload_n rfl rfl rfl ?_
      refine q_getf rfl rfl (by decide) rfl rfl ?_
      refine q_iload rfl rfl rfl ?_
      refine q_iload_n rfl rfl rfl ?_
      refine q_iast rfl rfl (by decide) rfl (by decide) ?_
      refine q_aload_n rfl rfl rfl ?_
      refine q_iload_n rfl rfl rfl ?_
      refine q_nV1 rfl rfl (Or.inl rfl) rfl rfl rfl (by decide) rfl ⟨rfl, rfl⟩ rfl ?_
      change PQ _ _ _ mm_X12_rest 0 [.ref 46, .int 1, pm_un, pm_un] [] _ _ 0 0 _
      refine q_bipush rfl rfl ?_
      refine q_ist2n rfl rfl rfl rfl ?_
      refine q_iconst rfl rfl ?_
      refine q_ist3n rfl rfl rfl rfl ?_
      refine q_iload_n rfl rfl rfl ?_
      refine q_bipush rfl rfl ?_
      refine q_icge rfl rfl (fun c209 => absurd c209 (by decide)) (fun c209 => ?_)
      refine q_bipush rfl rfl ?_
      refine q_iload_n rfl rfl rfl ?_
      refine q_imul rfl rfl (q_tn (z := 527) rfl ?_)
      refine q_aload_n rfl rfl rfl ?_
      refine q_getf rfl rfl (by decide) rfl rfl ?_
      refine q_iload_n rfl rfl rfl ?_
      refine q_iald rfl rfl (by decide) rfl (by decide) (q_tn (z := 10) rfl ?_)
      refine q_iadd rfl rfl (q_tn (z := 537) rfl ?_)
      refine q_ist2n rfl rfl rfl rfl ?_
      refine q_icc3 (z := 1) rfl rfl rfl rfl rfl ?_
      refine q_goto rfl ?_
      refine q_iload_n rfl rfl rfl ?_
      refine q_bipush rfl rfl ?_
      refine q_icge rfl rfl (fun c210 => absurd c210 (by decide)) (fun c210 => ?_)
      refine q_bipush rfl rfl ?_
      refine q_iload_n rfl rfl rfl ?_
      refine q_imul rfl rfl (q_tn (z := 16647) rfl ?_)
      refine q_aload_n rfl rfl rfl ?_
      refine q_getf rfl rfl (by decide) rfl rfl ?_
      refine q_iload_n rfl rfl rfl ?_
      refine q_iald rfl rfl (by decide) rfl (by decide) (q_tn (z := 0) rfl ?_)
      refine q_iadd rfl rfl (q_tn (z := 16647) rfl ?_)
      refine q_ist2n rfl rfl rfl rfl ?_
      refine q_icc3 (z := 2) rfl rfl rfl rfl rfl ?_
      refine q_goto rfl ?_
      refine q_iload_n rfl rfl rfl ?_
      refine q_bipush rfl rfl ?_
      refine q_icge rfl rfl (fun c211 => absurd c211 (by decide)) (fun c211 => ?_)
      refine q_bipush rfl rfl ?_
      refine q_iload_n rfl rfl rfl ?_
      refine q_imul rfl rfl (q_tn (z := 516057) rfl ?_)
      refine q_aload_n rfl rfl rfl ?_
      refine q_getf rfl rfl (by decide) rfl rfl ?_
      refine q_iload_n rfl rfl rfl ?_
      refine q_iald rfl rfl (by decide) rfl (by decide) (q_tn (z := 0) rfl ?_)
      refine q_iadd rfl rfl (q_tn (z := 516057) rfl ?_)
      refine q_ist2n rfl rfl rfl rfl ?_
      refine q_icc3 (z := 3) rfl rfl rfl rfl rfl ?_
      refine q_goto rfl ?_
      refine q_iload_n rfl rfl rfl ?_
      refine q_bipush rfl rfl ?_
      refine q_icge rfl rfl (fun c212 => absurd c212 (by decide)) (fun c212 => ?_)
      refine q_bipush rfl rfl ?_
      refine q_iload_n rfl rfl rfl ?_
      refine q_imul rfl rfl (q_tn (z := 15997767) rfl ?_)
      refine q_aload_n rfl rfl rfl ?_
      refine q_getf rfl rfl (by decide) rfl rfl ?_
      refine q_iload_n rfl rfl rfl ?_
      refine q_iald rfl rfl (by decide) rfl (by decide) (q_tn (z := 0) rfl ?_)
      refine q_iadd rfl rfl (q_tn (z := 15997767) rfl ?_)
      refine q_ist2n rfl rfl rfl rfl ?_
      refine q_icc3 (z := 4) rfl rfl rfl rfl rfl ?_
      refine q_goto rfl ?_
      refine q_iload_n rfl rfl rfl ?_
      refine q_bipush rfl rfl ?_
      refine q_icge rfl rfl (fun c213 => absurd c213 (by decide)) (fun c213 => ?_)
      refine q_bipush rfl rfl ?_
      refine q_iload_n rfl rfl rfl ?_
      refine q_imul rfl rfl (q_tn (z := 495930777) rfl ?_)
      refine q_aload_n rfl rfl rfl ?_
      refine q_getf rfl rfl (by decide) rfl rfl ?_
      refine q_iload_n rfl rfl rfl ?_
      refine q_iald rfl rfl (by decide) rfl (by decide) (q_tn (z := 0) rfl ?_)
      refine q_iadd rfl rfl (q_tn (z := 495930777) rfl ?_)
      refine q_ist2n rfl rfl rfl rfl ?_
      refine q_icc3 (z := 5) rfl rfl rfl rfl rfl ?_
      refine q_goto rfl ?_
      refine q_iload_n rfl rfl rfl ?_
      refine q_bipush rfl rfl ?_
      refine q_icge rfl rfl (fun c214 => absurd c214 (by decide)) (fun c214 => ?_)
      refine q_bipush rfl rfl ?_
      refine q_iload_n rfl rfl rfl ?_
      refine q_imul rfl rfl (q_tn (z := (-1806015097)) rfl ?_)
      refine q_aload_n rfl rfl rfl ?_
      refine q_getf rfl rfl (by decide) rfl rfl ?_
      refine q_iload_n rfl rfl rfl ?_
      refine q_iald rfl rfl (by decide) rfl (by decide) (q_tn (z := 0) rfl ?_)
      refine q_iadd rfl rfl (q_tn (z := (-1806015097)) rfl ?_)
      refine q_ist2n rfl rfl rfl rfl ?_
      refine q_icc3 (z := 6) rfl rfl rfl rfl rfl ?_
      refine q_goto rfl ?_
      refine q_iload_n rfl rfl rfl ?_
      refine q_bipush rfl rfl ?_
      refine q_icge rfl rfl (fun c215 => absurd c215 (by decide)) (fun c215 => ?_)
      refine q_bipush rfl rfl ?_
      refine q_iload_n rfl rfl rfl ?_
      refine q_imul rfl rfl (q_tn (z := (-151893159)) rfl ?_)
      refine q_aload_n rfl rfl rfl ?_
      refine q_getf rfl rfl (by decide) rfl rfl ?_
      refine q_iload_n rfl rfl rfl ?_
      refine q_iald rfl rfl (by decide) rfl (by decide) (q_tn (z := 0) rfl ?_)
      refine q_iadd rfl rfl (q_tn (z := (-151893159)) rfl ?_)
      refine q_ist2n rfl rfl rfl rfl ?_
      refine q_icc3 (z := 7) rfl rfl rfl rfl rfl ?_
      refine q_goto rfl ?_
      refine q_iload_n rfl rfl rfl ?_
      refine q_bipush rfl rfl ?_
      refine q_icge rfl rfl (fun c216 => absurd c216 (by decide)) (fun c216 => ?_)
      refine q_bipush rfl rfl ?_
      refine q_iload_n rfl rfl rfl ?_
      refine q_imul rfl rfl (q_tn (z := (-413720633)) rfl ?_)
      refine q_aload_n rfl rfl rfl ?_
      refine q_getf rfl rfl (by decide) rfl rfl ?_
      refine q_iload_n rfl rfl rfl ?_
      refine q_iald rfl rfl (by decide) rfl (by decide) (q_tn (z := 0) rfl ?_)
      refine q_iadd rfl rfl (q_tn (z := (-413720633)) rfl ?_)
      refine q_ist2n rfl rfl rfl rfl ?_
      refine q_icc3 (z := 8) rfl rfl rfl rfl rfl ?_
      refine q_goto rfl ?_
      refine q_iload_n rfl rfl rfl ?_
      refine q_bipush rfl rfl ?_
      refine q_icge rfl rfl (fun c217 => absurd c217 (by decide)) (fun c217 => ?_)
      refine q_bipush rfl rfl ?_
      refine q_iload_n rfl rfl rfl ?_
      refine q_imul rfl rfl (q_tn (z := 59562265) rfl ?_)
      refine q_aload_n rfl rfl rfl ?_
      refine q_getf rfl rfl (by decide) rfl rfl ?_
      refine q_iload_n rfl rfl rfl ?_
      refine q_iald rfl rfl (by decide) rfl (by decide) (q_tn (z := 0) rfl ?_)
      refine q_iadd rfl rfl (q_tn (z := 59562265) rfl ?_)
      refine q_ist2n rfl rfl rfl rfl ?_
      refine q_icc3 (z := 9) rfl rfl rfl rfl rfl ?_
      refine q_goto rfl ?_
      refine q_iload_n rfl rfl rfl ?_
      refine q_bipush rfl rfl ?_
      refine q_icge rfl rfl (fun c218 => absurd c218 (by decide)) (fun c218 => ?_)
      refine q_bipush rfl rfl ?_
      refine q_iload_n rfl rfl rfl ?_
      refine q_imul rfl rfl (q_tn (z := 1846430215) rfl ?_)
      refine q_aload_n rfl rfl rfl ?_
      refine q_getf rfl rfl (by decide) rfl rfl ?_
      refine q_iload_n rfl rfl rfl ?_
      refine q_iald rfl rfl (by decide) rfl (by decide) (q_tn (z := 0) rfl ?_)
      refine q_iadd rfl rfl (q_tn (z := 1846430215) rfl ?_)
      refine q_ist2n rfl rfl rfl rfl ?_
      refine q_icc3 (z := 10) rfl rfl rfl rfl rfl ?_
      refine q_goto rfl ?_
      refine q_iload_n rfl rfl rfl ?_
      refine q_bipush rfl rfl ?_
      refine q_icge rfl rfl (fun c219 => absurd c219 (by decide)) (fun c219 => ?_)
      refine q_bipush rfl rfl ?_
      refine q_iload_n rfl rfl rfl ?_
      refine q_imul rfl rfl (q_tn (z := 1404761817) rfl ?_)
      refine q_aload_n rfl rfl rfl ?_
      refine q_getf rfl rfl (by decide) rfl rfl ?_
      refine q_iload_n rfl rfl rfl ?_
      refine q_iald rfl rfl (by decide) rfl (by decide) (q_tn (z := 0) rfl ?_)
      refine q_iadd rfl rfl (q_tn (z := 1404761817) rfl ?_)
      refine q_ist2n rfl rfl rfl rfl ?_
      refine q_icc3 (z := 11) rfl rfl rfl rfl rfl ?_
      refine q_goto rfl ?_
      refine q_iload_n rfl rfl rfl ?_
      refine q_bipush rfl rfl ?_
      refine q_icge rfl rfl (fun c220 => absurd c220 (by decide)) (fun c220 => ?_)
      refine q_bipush rfl rfl ?_
      refine q_iload_n rfl rfl rfl ?_
      refine q_imul rfl rfl (q_tn (z := 597943367) rfl ?_)
      refine q_aload_n rfl rfl rfl ?_
      refine q_getf rfl rfl (by decide) rfl rfl ?_
      refine q_iload_n rfl rfl rfl ?_
      refine q_iald rfl rfl (by decide) rfl (by decide) (q_tn (z := 0) rfl ?_)
      refine q_iadd rfl rfl (q_tn (z := 597943367) rfl ?_)
      refine q_ist2n rfl rfl rfl rfl ?_
      refine q_icc3 (z := 12) rfl rfl rfl rfl rfl ?_
      refine q_goto rfl ?_
      refine q_iload_n rfl rfl rfl ?_
      refine q_bipush rfl rfl ?_
      refine q_icge rfl rfl (fun c221 => absurd c221 (by decide)) (fun c221 => ?_)
      refine q_bipush rfl rfl ?_
      refine q_iload_n rfl rfl rfl ?_
      refine q_imul rfl rfl (q_tn (z := 1356375193) rfl ?_)
      refine q_aload_n rfl rfl rfl ?_
      refine q_getf rfl rfl (by decide) rfl rfl ?_
      refine q_iload_n rfl rfl rfl ?_
      refine q_iald rfl rfl (by decide) rfl (by decide) (q_tn (z := 0) rfl ?_)
      refine q_iadd rfl rfl (q_tn (z := 1356375193) rfl ?_)
      refine q_ist2n rfl rfl rfl rfl ?_
      refine q_icc3 (z := 13) rfl rfl rfl rfl rfl ?_
      refine q_goto rfl ?_
      refine q_iload_n rfl rfl rfl ?_
      refine q_bipush rfl rfl ?_
      refine q_icge rfl rfl (fun c222 => absurd c222 (by decide)) (fun c222 => ?_)
      refine q_bipush rfl rfl ?_
      refine q_iload_n rfl rfl rfl ?_
      refine q_imul rfl rfl (q_tn (z := (-902041977)) rfl ?_)
      refine q_aload_n rfl rfl rfl ?_
      refine q_getf rfl rfl (by decide) rfl rfl ?_
      refine q_iload_n rfl rfl rfl ?_
      refine q_iald rfl rfl (by decide) rfl (by decide) (q_tn (z := 0) rfl ?_)
      refine q_iadd rfl rfl (q_tn (z := (-902041977)) rfl ?_)
      refine q_ist2n rfl rfl rfl rfl ?_
      refine q_icc3 (z := 14) rfl rfl rfl rfl rfl ?_
      refine q_goto rfl ?_
      refine q_iload_n rfl rfl rfl ?_
      refine q_bipush rfl rfl ?_
      refine q_icge rfl rfl (fun c223 => absurd c223 (by decide)) (fun c223 => ?_)
      refine q_bipush rfl rfl ?_
      refine q_iload_n rfl rfl rfl ?_
      refine q_imul rfl rfl (q_tn (z := 2101469785) rfl ?_)
      refine q_aload_n rfl rfl rfl ?_
      refine q_getf rfl rfl (by decide) rfl rfl ?_
      refine q_iload_n rfl rfl rfl ?_
      refine q_iald rfl rfl (by decide) rfl (by decide) (q_tn (z := 0) rfl ?_)
      refine q_iadd rfl rfl (q_tn (z := 2101469785) rfl ?_)
      refine q_ist2n rfl rfl rfl rfl ?_
      refine q_icc3 (z := 15) rfl rfl rfl rfl rfl ?_
      refine q_goto rfl ?_
      refine q_iload_n rfl rfl rfl ?_
      refine q_bipush rfl rfl ?_
      refine q_icge rfl rfl (fun c224 => absurd c224 (by decide)) (fun c224 => ?_)
      refine q_bipush rfl rfl ?_
      refine q_iload_n rfl rfl rfl ?_
      refine q_imul rfl rfl (q_tn (z := 721053895) rfl ?_)
      refine q_aload_n rfl rfl rfl ?_
      refine q_getf rfl rfl (by decide) rfl rfl ?_
      refine q_iload_n rfl rfl rfl ?_
      refine q_iald rfl rfl (by decide) rfl (by decide) (q_tn (z := 0) rfl ?_)
      refine q_iadd rfl rfl (q_tn (z := 721053895) rfl ?_)
      refine q_ist2n rfl rfl rfl rfl ?_
      refine q_icc3 (z := 16) rfl rfl rfl rfl rfl ?_
      refine q_goto rfl ?_
      refine q_iload_n rfl rfl rfl ?_
      refine q_bipush rfl rfl ?_
      refine q_icge rfl rfl (fun c225 => absurd c225 (by decide)) (fun c225 => ?_)
      refine q_bipush rfl rfl ?_
      refine q_iload_n rfl rfl rfl ?_
      refine q_imul rfl rfl (q_tn (z := 877834265) rfl ?_)
      refine q_aload_n rfl rfl rfl ?_
      refine q_getf rfl rfl (by decide) rfl rfl ?_
      refine q_iload_n rfl rfl rfl ?_
      refine q_iald rfl rfl (by decide) rfl (by decide) (q_tn (z := 0) rfl ?_)
      refine q_iadd rfl rfl (q_tn (z := 877834265) rfl ?_)
      refine q_ist2n rfl rfl rfl rfl ?_
      refine q_icc3 (z := 17) rfl rfl rfl rfl rfl ?_
      refine q_goto rfl ?_
      refine q_iload_n rfl rfl rfl ?_
      refine q_bipush rfl rfl ?_
      refine q_icge rfl rfl (fun c226 => absurd c226 (by decide)) (fun c226 => ?_)
      refine q_bipush rfl rfl ?_
      refine q_iload_n rfl rfl rfl ?_
      refine q_imul rfl rfl (q_tn (z := 1443058439) rfl ?_)
      refine q_aload_n rfl rfl rfl ?_
      refine q_getf rfl rfl (by decide) rfl rfl ?_
      refine q_iload_n rfl rfl rfl ?_
      refine q_iald rfl rfl (by decide) rfl (by decide) (q_tn (z := 0) rfl ?_)
      refine q_iadd rfl rfl (q_tn (z := 1443058439) rfl ?_)
      refine q_ist2n rfl rfl rfl rfl ?_
      refine q_icc3 (z := 18) rfl rfl rfl rfl rfl ?_
      refine q_goto rfl ?_
      refine q_iload_n rfl rfl rfl ?_
      refine q_bipush rfl rfl ?_
      refine q_icge rfl rfl (fun c227 => absurd c227 (by decide)) (fun c227 => ?_)
      refine q_bipush rfl rfl ?_
      refine q_iload_n rfl rfl rfl ?_
      refine q_imul rfl rfl (q_tn (z := 1785138649) rfl ?_)
      refine q_aload_n rfl rfl rfl ?_
      refine q_getf rfl rfl (by decide) rfl rfl ?_
      refine q_iload_n rfl rfl rfl ?_
      refine q_iald rfl rfl (by decide) rfl (by decide) (q_tn (z := 0) rfl ?_)
      refine q_iadd rfl rfl (q_tn (z := 1785138649) rfl ?_)
      refine q_ist2n rfl rfl rfl rfl ?_
      refine q_icc3 (z := 19) rfl rfl rfl rfl rfl ?_
      refine q_goto rfl ?_
      refine q_iload_n rfl rfl rfl ?_
      refine q_bipush rfl rfl ?_
      refine q_icge rfl rfl (fun c228 => absurd c228 (by decide)) (fun c228 => ?_)
      refine q_bipush rfl rfl ?_
      refine q_iload_n rfl rfl rfl ?_
      refine q_imul rfl rfl (q_tn (z := (-495276729)) rfl ?_)
      refine q_aload_n rfl rfl rfl ?_
      refine q_getf rfl rfl (by decide) rfl rfl ?_
      refine q_iload_n rfl rfl rfl ?_
      refine q_iald rfl rfl (by decide) rfl (by decide) (q_tn (z := 0) rfl ?_)
      refine q_iadd rfl rfl (q_tn (z := (-495276729)) rfl ?_)
      refine q_ist2n rfl rfl rfl rfl ?_
      refine q_icc3 (z := 20) rfl rfl rfl rfl rfl ?_
      refine q_goto rfl ?_
      refine q_iload_n rfl rfl rfl ?_
      refine q_bipush rfl rfl ?_
      refine q_icge rfl rfl (fun c229 => ?_) (fun c229 => absurd (by decide) c229)
      refine q_sipush rfl rfl ?_
      refine q_iload_n rfl rfl rfl ?_
      refine q_imul rfl rfl (q_tn (z := 8192) rfl ?_)
      refine q_iload_n rfl rfl rfl ?_
      refine q_iload_n rfl rfl rfl ?_
      refine q_bipush rfl rfl ?_
      refine q_iushr rfl rfl (q_tn (z := 463829) rfl ?_)
      refine q_ixor rfl rfl (q_tn (z := (-495075694)) rfl ?_)
      refine q_sipush rfl rfl ?_
      refine q_irem rfl rfl (by decide) (q_tn (z := (-366)) rfl ?_)
      refine q_iload_n rfl rfl rfl ?_
      refine q_iload_n rfl rfl rfl ?_
      refine q_bipush rfl rfl ?_
      refine q_iushr rfl rfl (q_tn (z := 463829) rfl ?_)
      refine q_ixor rfl rfl (q_tn (z := (-495075694)) rfl ?_)
      refine q_sipush rfl rfl ?_
      refine q_irem rfl rfl (by decide) (q_tn (z := (-366)) rfl ?_)
      refine q_ifge rfl rfl (fun c230 => absurd c230 (by decide)) (fun c230 => ?_)
      refine q_iconst rfl rfl ?_
      refine q_goto rfl ?_
      refine q_imul rfl rfl (q_tn (z := 366) rfl ?_)
      refine q_iadd rfl rfl (q_tn (z := 8558) rfl ?_)
      refine q_iret rfl rfl trivial ?_
      refine ⟨_, rfl, ?_⟩
      refine q_ist6 rfl rfl rfl rfl ?_
      refine q_aload_n rfl rfl rfl ?_
      refine q_getf rfl rfl (by decide) rfl rfl ?_
      refine q_iload rfl rfl rfl ?_
      refine q_aload_n rfl rfl rfl ?_
      refine q_getf rfl rfl (by decide) rfl rfl ?_
      refine q_iload rfl rfl rfl ?_
      refine q_iald rfl rfl (by decide) rfl (by decide) (q_tn (z := (-1)) rfl ?_)
      refine q_iast rfl rfl (by decide) rfl (by decide) ?_
      refine q_aload_n rfl rfl rfl ?_
      refine q_getf rfl rfl (by decide) rfl rfl ?_
      refine q_iload rfl rfl rfl ?_
      refine q_iload rfl rfl rfl ?_
      refine q_iast rfl rfl (by decide) rfl (by decide) ?_
      refine q_aload_n rfl rfl rfl ?_
      refine q_getf rfl rfl (by decide) rfl rfl ?_
      refine q_iload_n rfl rfl rfl ?_
      refine q_dup2 rfl rfl ?_
      refine q_iald rfl rfl (by decide) rfl (by decide) (q_tn (z := 0) rfl ?_)
      refine q_iconst rfl rfl ?_
      refine q_iadd rfl rfl (q_tn (z := 1) rfl ?_)
      refine q_iast rfl rfl (by decide) rfl (by decide) ?_
      refine q_iload rfl rfl rfl ?_
      refine q_iret rfl rfl trivial ?_
      refine ⟨_, rfl, ?_⟩
      refine q_ist3n rfl rfl rfl rfl ?_
      refine q_iconst rfl rfl ?_
      refine q_ist4 rfl rfl rfl rfl ?_
      refine q_iload rfl rfl rfl ?_
      refine q_aload_n rfl rfl rfl ?_
      refine q_getf rfl rfl (by decide) rfl rfl ?_
      refine q_iload_n rfl rfl rfl ?_
      refine q_iald rfl rfl (by decide) rfl (by decide) (q_tn (z := 1) rfl ?_)
      refine q_icge rfl rfl (fun c231 => absurd c231 (by decide)) (fun c231 => ?_)
      refine q_iconst rfl rfl ?_
      refine q_ist5 rfl rfl rfl rfl ?_
      refine q_iload rfl rfl rfl ?_
      refine q_iconst rfl rfl ?_
      refine q_icge rfl rfl (fun c232 => absurd c232 (by decide)) (fun c232 => ?_)
      refine q_iconst rfl rfl ?_
      refine q_sipush rfl rfl ?_
      refine q_iload_n rfl rfl rfl ?_
      refine q_imul rfl rfl (q_tn (z := 2000) rfl ?_)
      refine q_iload rfl rfl rfl ?_
      refine q_iadd rfl rfl (q_tn (z := 2000) rfl ?_)
      refine q_imul rfl rfl (q_tn (z := 6000) rfl ?_)
      refine q_iload rfl rfl rfl ?_
      refine q_iadd rfl rfl (q_tn (z := 6000) rfl ?_)
      refine q_ist6 rfl rfl rfl rfl ?_
      refine q_aload_n rfl rfl rfl ?_
      refine q_getf rfl rfl (by decide) rfl rfl ?_
      refine q_iload rfl rfl rfl ?_
      refine q_iconst rfl rfl ?_
      refine q_iast rfl rfl (by decide) rfl (by decide) ?_
      refine q_aload_n rfl rfl rfl ?_
      refine q_iload_n rfl rfl rfl ?_
      refine q_iload rfl rfl rfl ?_
      refine q_cV2v rfl rfl (Or.inl rfl) rfl rfl rfl (by decide) rfl ⟨rfl, rfl⟩ rfl (fun K' hK' => l_sa (R := 1) (by decide) rfl (by decide) rfl rfl rfl rfl rfl hK') ?_
      refine q_iload rfl rfl rfl ?_
      refine q_aload_n rfl rfl rfl ?_
      refine q_getf rfl rfl (by decide) rfl rfl ?_
      refine q_icge rfl rfl (fun c233 => absurd c233 (by decide)) (fun c233 => ?_)
      refine q_aload_n rfl rfl rfl ?_
      refine q_iload rfl rfl rfl ?_
      refine q_iload_n rfl rfl rfl ?_
      refine q_nV2 rfl rfl (Or.inl rfl) rfl rfl rfl (by decide) rfl ⟨rfl, rfl⟩ rfl ?_
      change PQ _ _ _ mm_X12_maySteps 0 [.ref 46, .int 0, .int 1, pm_un, pm_un, pm_un] [] _ _ 0 0 _
      refine q_aload_n rfl rfl rfl ?_
      refine q_iload_n rfl rfl rfl ?_
      refine q_iload_n rfl rfl rfl ?_
      refine q_nV2 rfl rfl (Or.inl rfl) rfl rfl rfl (by decide) rfl ⟨rfl, rfl⟩ rfl ?_
      change PQ _ _ _ mm_X12_canStep 0 [.ref 46, .int 0, .int 1, pm_un] [] _ _ 0 0 _
      refine q_aload_n rfl rfl rfl ?_
      refine q_iload_n rfl rfl rfl ?_
      refine q_nV1 rfl rfl (Or.inl rfl) rfl rfl rfl (by decide) rfl ⟨rfl, rfl⟩ rfl ?_
      change PQ _ _ _ mm_X12_isOver 0 [.ref 46, .int 0] [] _ _ 0 0 _
      refine q_aload_n rfl rfl rfl ?_
      refine q_getf rfl rfl (by decide) rfl rfl ?_
      refine q_iconst rfl rfl ?_
      refine q_iload_n rfl rfl rfl ?_
      refine q_imul rfl rfl (q_tn (z := 0) rfl ?_)
      refine q_iald rfl rfl (by decide) rfl (by decide) (q_tn (z := 10) rfl ?_)
      refine q_bipush rfl rfl ?_
      refine q_iclt rfl rfl (fun c234 => absurd c234 (by decide)) (fun c234 => ?_)
      refine q_iconst rfl rfl ?_
      refine q_goto rfl ?_
      refine q_iret rfl rfl rfl ?_
      refine ⟨_, rfl, ?_⟩
      refine q_ifeq rfl rfl (fun c235 => absurd c235 (by decide)) (fun c235 => ?_)
      refine q_iconst rfl rfl ?_
      refine q_iret rfl rfl rfl ?_
      refine ⟨_, rfl, ?_⟩
      refine q_ifne rfl rfl (fun c236 => ?_) (fun c236 => absurd (by decide) c236)
      refine q_iconst rfl rfl ?_
      refine q_iret rfl rfl rfl ?_
      refine ⟨_, rfl, ?_⟩
      refine q_ifne rfl rfl (fun c237 => ?_) (fun c237 => absurd (by decide) c237)
      refine q_goto rfl ?_
      refine q_icc5 (z := 1) rfl rfl rfl rfl rfl ?_
      refine q_goto rfl ?_
      refine q_iload rfl rfl rfl ?_
      refine q_iconst rfl rfl ?_
      refine q_icge rfl rfl (fun c238 => absurd c238 (by decide)) (fun c238 => ?_)
      refine q_iconst rfl rfl ?_
      refine q_sipush rfl rfl ?_
      refine q_iload_n rfl rfl rfl ?_
      refine q_imul rfl rfl (q_tn (z := 2000) rfl ?_)
      refine q_iload rfl rfl rfl ?_
      refine q_iadd rfl rfl (q_tn (z := 2000) rfl ?_)
      refine q_imul rfl rfl (q_tn (z := 6000) rfl ?_)
      refine q_iload rfl rfl rfl ?_
      refine q_iadd rfl rfl (q_tn (z := 6001) rfl ?_)
      refine q_ist6 rfl rfl rfl rfl ?_
      refine q_aload_n rfl rfl rfl ?_
      refine q_getf rfl rfl (by decide) rfl rfl ?_
      refine q_iload rfl rfl rfl ?_
      refine q_iconst rfl rfl ?_
      refine q_iast rfl rfl (by decide) rfl (by decide) ?_
      refine q_aload_n rfl rfl rfl ?_
      refine q_iload_n rfl rfl rfl ?_
      refine q_iload rfl rfl rfl ?_
      refine q_cV2v rfl rfl (Or.inl rfl) rfl rfl rfl (by decide) rfl ⟨rfl, rfl⟩ rfl (fun K' hK' => l_sa (R := 1) (by decide) rfl (by decide) rfl rfl rfl rfl rfl hK') ?_
      refine q_iload rfl rfl rfl ?_
      refine q_aload_n rfl rfl rfl ?_
      refine q_getf rfl rfl (by decide) rfl rfl ?_
      refine q_icge rfl rfl (fun c239 => ?_) (fun c239 => absurd (by decide) c239)
      refine q_icc5 (z := 2) rfl rfl rfl rfl rfl ?_
      refine q_goto rfl ?_
      refine q_iload rfl rfl rfl ?_
      refine q_iconst rfl rfl ?_
      refine q_icge rfl rfl (fun c240 => absurd c240 (by decide)) (fun c240 => ?_)
      refine q_iconst rfl rfl ?_
      refine q_sipush rfl rfl ?_
      refine q_iload_n rfl rfl rfl ?_
      refine q_imul rfl rfl (q_tn (z := 2000) rfl ?_)
      refine q_iload rfl rfl rfl ?_
      refine q_iadd rfl rfl (q_tn (z := 2000) rfl ?_)
      refine q_imul rfl rfl (q_tn (z := 6000) rfl ?_)
      refine q_iload rfl rfl rfl ?_
      refine q_iadd rfl rfl (q_tn (z := 6002) rfl ?_)
      refine q_ist6 rfl rfl rfl rfl ?_
      refine q_aload_n rfl rfl rfl ?_
      refine q_getf rfl rfl (by decide) rfl rfl ?_
      refine q_iload rfl rfl rfl ?_
      refine q_iconst rfl rfl ?_
      refine q_iast rfl rfl (by decide) rfl (by decide) ?_
      refine q_aload_n rfl rfl rfl ?_
      refine q_iload_n rfl rfl rfl ?_
      refine q_iload rfl rfl rfl ?_
      refine q_cV2v rfl rfl (Or.inl rfl) rfl rfl rfl (by decide) rfl ⟨rfl, rfl⟩ rfl (fun K' hK' => l_sa (R := 1) (by decide) rfl (by decide) rfl rfl rfl rfl rfl hK') ?_
      refine q_iload rfl rfl rfl ?_
      refine q_aload_n rfl rfl rfl ?_
      refine q_getf rfl rfl (by decide) rfl rfl ?_
      refine q_icge rfl rfl (fun c241 => ?_) (fun c241 => absurd (by decide) c241)
      refine q_icc5 (z := 3) rfl rfl rfl rfl rfl ?_
      refine q_goto rfl ?_
      refine q_iload rfl rfl rfl ?_
      refine q_iconst rfl rfl ?_
      refine q_icge rfl rfl (fun c242 => ?_) (fun c242 => absurd (by decide) c242)
      refine q_icc4 (z := 1) rfl rfl rfl rfl rfl ?_
      refine q_goto rfl ?_
      refine q_iload rfl rfl rfl ?_
      refine q_aload_n rfl rfl rfl ?_
      refine q_getf rfl rfl (by decide) rfl rfl ?_
      refine q_iload_n rfl rfl rfl ?_
      refine q_iald rfl rfl (by decide) rfl (by decide) (q_tn (z := 1) rfl ?_)
      refine q_icge rfl rfl (fun c243 => ?_) (fun c243 => absurd (by decide) c243)
      refine q_iconst rfl rfl ?_
      refine q_iret rfl rfl rfl ?_
      refine ⟨_, rfl, ?_⟩
      refine q_ifeq rfl rfl (fun c244 => absurd c244 (by decide)) (fun c244 => ?_)
      refine q_iconst rfl rfl ?_
      refine q_goto rfl ?_
      refine q_iast rfl rfl (by decide) rfl (by decide) ?_
      refine q_iload_n rfl rfl rfl ?_
      refine q_ifne rfl rfl (fun c245 => absurd c245 (by decide)) (fun c245 => ?_)
      refine q_aload_n rfl rfl rfl ?_
      refine q_getf rfl rfl (by decide) rfl rfl ?_
      refine q_iload_n rfl rfl rfl ?_
      refine q_aload_n rfl rfl rfl ?_
      refine q_getf rfl rfl (by decide) rfl rfl ?_
      refine q_iload_n rfl rfl rfl ?_
      refine q_iald rfl rfl (by decide) rfl (by decide) (q_tn (z := 1) rfl ?_)
      refine q_iast rfl rfl (by decide) rfl (by decide) ?_
      refine q_iconst rfl rfl ?_
      refine q_ist3n rfl rfl rfl rfl ?_
      refine q_iload_n rfl rfl rfl ?_
      refine q_iconst rfl rfl ?_
      refine q_icge rfl rfl (fun c246 => absurd c246 (by decide)) (fun c246 => ?_)
      refine q_aload_n rfl rfl rfl ?_
      refine q_getf rfl rfl (by decide) rfl rfl ?_
      refine q_iconst rfl rfl ?_
      refine q_iload_n rfl rfl rfl ?_
      refine q_imul rfl rfl (q_tn (z := 4) rfl ?_)
      refine q_iload_n rfl rfl rfl ?_
      refine q_iadd rfl rfl (q_tn (z := 4) rfl ?_)
      refine q_iconst rfl rfl ?_
      refine q_iast rfl rfl (by decide) rfl (by decide) ?_
      refine q_icc3 (z := 1) rfl rfl rfl rfl rfl ?_
      refine q_goto rfl ?_
      refine q_iload_n rfl rfl rfl ?_
      refine q_iconst rfl rfl ?_
      refine q_icge rfl rfl (fun c247 => absurd c247 (by decide)) (fun c247 => ?_)
      refine q_aload_n rfl rfl rfl ?_
      refine q_getf rfl rfl (by decide) rfl rfl ?_
      refine q_iconst rfl rfl ?_
      refine q_iload_n rfl rfl rfl ?_
      refine q_imul rfl rfl (q_tn (z := 4) rfl ?_)
      refine q_iload_n rfl rfl rfl ?_
      refine q_iadd rfl rfl (q_tn (z := 5) rfl ?_)
      refine q_iconst rfl rfl ?_
      refine q_iast rfl rfl (by decide) rfl (by decide) ?_
      refine q_icc3 (z := 2) rfl rfl rfl rfl rfl ?_
      refine q_goto rfl ?_
      refine q_iload_n rfl rfl rfl ?_
      refine q_iconst rfl rfl ?_
      refine q_icge rfl rfl (fun c248 => absurd c248 (by decide)) (fun c248 => ?_)
      refine q_aload_n rfl rfl rfl ?_
      refine q_getf rfl rfl (by decide) rfl rfl ?_
      refine q_iconst rfl rfl ?_
      refine q_iload_n rfl rfl rfl ?_
      refine q_imul rfl rfl (q_tn (z := 4) rfl ?_)
      refine q_iload_n rfl rfl rfl ?_
      refine q_iadd rfl rfl (q_tn (z := 6) rfl ?_)
      refine q_iconst rfl rfl ?_
      refine q_iast rfl rfl (by decide) rfl (by decide) ?_
      refine q_icc3 (z := 3) rfl rfl rfl rfl rfl ?_
      refine q_goto rfl ?_
      refine q_iload_n rfl rfl rfl ?_
      refine q_iconst rfl rfl ?_
      refine q_icge rfl rfl (fun c249 => absurd c249 (by decide)) (fun c249 => ?_)
      refine q_aload_n rfl rfl rfl ?_
      refine q_getf rfl rfl (by decide) rfl rfl ?_
      refine q_iconst rfl rfl ?_
      refine q_iload_n rfl rfl rfl ?_
      refine q_imul rfl rfl (q_tn (z := 4) rfl ?_)
      refine q_iload_n rfl rfl rfl ?_
      refine q_iadd rfl rfl (q_tn (z := 7) rfl ?_)
      refine q_iconst rfl rfl ?_
      refine q_iast rfl rfl (by decide) rfl (by decide) ?_
      refine q_icc3 (z := 4) rfl rfl rfl rfl rfl ?_
      refine q_goto rfl ?_
      refine q_iload_n rfl rfl rfl ?_
      refine q_iconst rfl rfl ?_
      refine q_icge rfl rfl (fun c250 => ?_) (fun c250 => absurd (by decide) c250)
      refine q_iconst rfl rfl ?_
      refine q_ist3n rfl rfl rfl rfl ?_
      refine q_iload_n rfl rfl rfl ?_
      refine q_aload_n rfl rfl rfl ?_
      refine q_getf rfl rfl (by decide) rfl rfl ?_
      refine q_iload_n rfl rfl rfl ?_
      refine q_iald rfl rfl (by decide) rfl (by decide) (q_tn (z := 1) rfl ?_)
      refine q_icge rfl rfl (fun c251 => absurd c251 (by decide)) (fun c251 => ?_)
      refine q_aload_n rfl rfl rfl ?_
      refine q_iload_n rfl rfl rfl ?_
      refine q_iload_n rfl rfl rfl ?_
      refine q_cV2v rfl rfl (Or.inl rfl) rfl rfl rfl (by decide) rfl ⟨rfl, rfl⟩ rfl (fun K' hK' => l_sa (R := 1) (by decide) rfl (by decide) rfl rfl rfl rfl rfl hK') ?_
      refine q_aload_n rfl rfl rfl ?_
      refine q_nV0 rfl rfl (Or.inl rfl) rfl rfl rfl (by decide) rfl ⟨rfl, rfl⟩ rfl ?_
      change PQ _ _ _ mm_X12_isEnd 0 [.ref 46, pm_un, pm_un] [] _ _ 0 0 _
      refine q_iconst rfl rfl ?_
      refine q_ist1n rfl rfl rfl rfl ?_
      refine q_iconst rfl rfl ?_
      refine q_ist2n rfl rfl rfl rfl ?_
      refine q_iload_n rfl rfl rfl ?_
      refine q_aload_n rfl rfl rfl ?_
      refine q_getf rfl rfl (by decide) rfl rfl ?_
      refine q_icge rfl rfl (fun c252 => absurd c252 (by decide)) (fun c252 => ?_)
      refine q_iload_n rfl rfl rfl ?_
      refine q_ifeq rfl rfl (fun c253 => absurd c253 (by decide)) (fun c253 => ?_)
      refine q_aload_n rfl rfl rfl ?_
      refine q_iload_n rfl rfl rfl ?_
      refine q_nV1 rfl rfl (Or.inl rfl) rfl rfl rfl (by decide) rfl ⟨rfl, rfl⟩ rfl ?_
      change PQ _ _ _ mm_X12_isOver 0 [.ref 46, .int 0] [] _ _ 0 0 _
      refine q_aload_n rfl rfl rfl ?_
      refine q_getf rfl rfl (by decide) rfl rfl ?_
      refine q_iconst rfl rfl ?_
      refine q_iload_n rfl rfl rfl ?_
      refine q_imul rfl rfl (q_tn (z := 0) rfl ?_)
      refine q_iald rfl rfl (by decide) rfl (by decide) (q_tn (z := 10) rfl ?_)
      refine q_bipush rfl rfl ?_
      refine q_iclt rfl rfl (fun c254 => absurd c254 (by decide)) (fun c254 => ?_)
      refine q_iconst rfl rfl ?_
      refine q_goto rfl ?_
      refine q_iret rfl rfl rfl ?_
      refine ⟨_, rfl, ?_⟩
      refine q_ifeq rfl rfl (fun c255 => absurd c255 (by decide)) (fun c255 => ?_)
      refine q_iconst rfl rfl ?_
      refine q_goto rfl ?_
      refine q_ist1n rfl rfl rfl rfl ?_
      refine q_icc2 (z := 1) rfl rfl rfl rfl rfl ?_
      refine q_goto rfl ?_
      refine q_iload_n rfl rfl rfl ?_
      refine q_aload_n rfl rfl rfl ?_
      refine q_getf rfl rfl (by decide) rfl rfl ?_
      refine q_icge rfl rfl (fun c256 => ?_) (fun c256 => absurd (by decide) c256)
      refine q_iload_n rfl rfl rfl ?_
      refine q_iret rfl rfl rfl ?_
      refine ⟨_, rfl, ?_⟩
      refine q_ifne rfl rfl (fun c257 => absurd c257 (by decide)) (fun c257 => ?_)
      refine q_iconst rfl rfl ?_
      refine q_ist4 rfl rfl rfl rfl ?_
      refine q_iload rfl rfl rfl ?_
      refine q_iconst rfl rfl ?_
      refine q_icge rfl rfl (fun c258 => absurd c258 (by decide)) (fun c258 => ?_)
      refine q_aload_n rfl rfl rfl ?_
      refine q_getf rfl rfl (by decide) rfl rfl ?_
      refine q_iconst rfl rfl ?_
      refine q_iload_n rfl rfl rfl ?_
      refine q_imul rfl rfl (q_tn (z := 4) rfl ?_)
      refine q_iload rfl rfl rfl ?_
      refine q_iadd rfl rfl (q_tn (z := 4) rfl ?_)
      refine q_dup2 rfl rfl ?_
      refine q_iald rfl rfl (by decide) rfl (by decide) (q_tn (z := 0) rfl ?_)
      refine q_iconst rfl rfl ?_
      refine q_aload_n rfl rfl rfl ?_
      refine q_getf rfl rfl (by decide) rfl rfl ?_
      refine q_bipush rfl rfl ?_
      refine q_iload rfl rfl rfl ?_
      refine q_iadd rfl rfl (q_tn (z := 12) rfl ?_)
      refine q_iald rfl rfl (by decide) rfl (by decide) (q_tn (z := 0) rfl ?_)
      refine q_ishl rfl rfl (q_tn (z := 1) rfl ?_)
      refine q_ior rfl rfl (q_tn (z := 1) rfl ?_)
      refine q_iast rfl rfl (by decide) rfl (by decide) ?_
      refine q_icc4 (z := 1) rfl rfl rfl rfl rfl ?_
      refine q_goto rfl ?_
      refine q_iload rfl rfl rfl ?_
      refine q_iconst rfl rfl ?_
      refine q_icge rfl rfl (fun c259 => absurd c259 (by decide)) (fun c259 => ?_)
      refine q_aload_n rfl rfl rfl ?_
      refine q_getf rfl rfl (by decide) rfl rfl ?_
      refine q_iconst rfl rfl ?_
      refine q_iload_n rfl rfl rfl ?_
      refine q_imul rfl rfl (q_tn (z := 4) rfl ?_)
      refine q_iload rfl rfl rfl ?_
      refine q_iadd rfl rfl (q_tn (z := 5) rfl ?_)
      refine q_dup2 rfl rfl ?_
      refine q_iald rfl rfl (by decide) rfl (by decide) (q_tn (z := 0) rfl ?_)
      refine q_iconst rfl rfl ?_
      refine q_aload_n rfl rfl rfl ?_
      refine q_getf rfl rfl (by decide) rfl rfl ?_
      refine q_bipush rfl rfl ?_
      refine q_iload rfl rfl rfl ?_
      refine q_iadd rfl rfl (q_tn (z := 13) rfl ?_)
      refine q_iald rfl rfl (by decide) rfl (by decide) (q_tn (z := 0) rfl ?_)
      refine q_ishl rfl rfl (q_tn (z := 1) rfl ?_)
      refine q_ior rfl rfl (q_tn (z := 1) rfl ?_)
      refine q_iast rfl rfl (by decide) rfl (by decide) ?_
      refine q_icc4 (z := 2) rfl rfl rfl rfl rfl ?_
      refine q_goto rfl ?_
      refine q_iload rfl rfl rfl ?_
      refine q_iconst rfl rfl ?_
      refine q_icge rfl rfl (fun c260 => absurd c260 (by decide)) (fun c260 => ?_)
      refine q_aload_n rfl rfl rfl ?_
      refine q_getf rfl rfl (by decide) rfl rfl ?_
      refine q_iconst rfl rfl ?_
      refine q_iload_n rfl rfl rfl ?_
      refine q_imul rfl rfl (q_tn (z := 4) rfl ?_)
      refine q_iload rfl rfl rfl ?_
      refine q_iadd rfl rfl (q_tn (z := 6) rfl ?_)
      refine q_dup2 rfl rfl ?_
      refine q_iald rfl rfl (by decide) rfl (by decide) (q_tn (z := 0) rfl ?_)
      refine q_iconst rfl rfl ?_
      refine q_aload_n rfl rfl rfl ?_
      refine q_getf rfl rfl (by decide) rfl rfl ?_
      refine q_bipush rfl rfl ?_
      refine q_iload rfl rfl rfl ?_
      refine q_iadd rfl rfl (q_tn (z := 14) rfl ?_)
      refine q_iald rfl rfl (by decide) rfl (by decide) (q_tn (z := 0) rfl ?_)
      refine q_ishl rfl rfl (q_tn (z := 1) rfl ?_)
      refine q_ior rfl rfl (q_tn (z := 1) rfl ?_)
      refine q_iast rfl rfl (by decide) rfl (by decide) ?_
      refine q_icc4 (z := 3) rfl rfl rfl rfl rfl ?_
      refine q_goto rfl ?_
      refine q_iload rfl rfl rfl ?_
      refine q_iconst rfl rfl ?_
      refine q_icge rfl rfl (fun c261 => absurd c261 (by decide)) (fun c261 => ?_)
      refine q_aload_n rfl rfl rfl ?_
      refine q_getf rfl rfl (by decide) rfl rfl ?_
      refine q_iconst rfl rfl ?_
      refine q_iload_n rfl rfl rfl ?_
      refine q_imul rfl rfl (q_tn (z := 4) rfl ?_)
      refine q_iload rfl rfl rfl ?_
      refine q_iadd rfl rfl (q_tn (z := 7) rfl ?_)
      refine q_dup2 rfl rfl ?_
      refine q_iald rfl rfl (by decide) rfl (by decide) (q_tn (z := 0) rfl ?_)
      refine q_iconst rfl rfl ?_
      refine q_aload_n rfl rfl rfl ?_
      refine q_getf rfl rfl (by decide) rfl rfl ?_
      refine q_bipush rfl rfl ?_
      refine q_iload rfl rfl rfl ?_
      refine q_iadd rfl rfl (q_tn (z := 15) rfl ?_)
      refine q_iald rfl rfl (by decide) rfl (by decide) (q_tn (z := 0) rfl ?_)
      refine q_ishl rfl rfl (q_tn (z := 1) rfl ?_)
      refine q_ior rfl rfl (q_tn (z := 1) rfl ?_)
      refine q_iast rfl rfl (by decide) rfl (by decide) ?_
      refine q_icc4 (z := 4) rfl rfl rfl rfl rfl ?_
      refine q_goto rfl ?_
      refine q_iload rfl rfl rfl ?_
      refine q_iconst rfl rfl ?_
      refine q_icge rfl rfl (fun c262 => ?_) (fun c262 => absurd (by decide) c262)
      refine q_icc3 (z := 1) rfl rfl rfl rfl rfl ?_
      refine q_goto rfl ?_
      refine q_iload_n rfl rfl rfl ?_
      refine q_aload_n rfl rfl rfl ?_
      refine q_getf rfl rfl (by decide) rfl rfl ?_
      refine q_iload_n rfl rfl rfl ?_
      refine q_iald rfl rfl (by decide) rfl (by decide) (q_tn (z := 1) rfl ?_)
      refine q_icge rfl rfl (fun c263 => ?_) (fun c263 => absurd (by decide) c263)
      refine q_aload_n rfl rfl rfl ?_
      refine q_getf rfl rfl (by decide) rfl rfl ?_
      refine q_iload_n rfl rfl rfl ?_
      refine q_iald rfl rfl (by decide) rfl (by decide) (q_tn (z := 1) rfl ?_)
      refine q_iconst rfl rfl ?_
      refine q_icne rfl rfl (fun c264 => absurd c264 (by decide)) (fun c264 => ?_)
      refine q_iconst rfl rfl ?_
      refine q_iret rfl rfl rfl ?_
      refine ⟨_, rfl, ?_⟩
      refine q_ifne rfl rfl (fun c265 => ?_) (fun c265 => absurd (by decide) c265)
      refine q_iload_n rfl rfl rfl ?_
      refine q_ifeq rfl rfl (fun c266 => ?_) (fun c266 => absurd (by decide) c266)
      refine q_iconst rfl rfl ?_
      refine q_ist1n rfl rfl rfl rfl ?_
      refine q_icc2 (z := 2) rfl rfl rfl rfl rfl ?_
      refine q_goto rfl ?_
      refine q_iload_n rfl rfl rfl ?_
      refine q_iconst rfl rfl ?_
      refine q_icge rfl rfl (fun c267 => absurd c267 (by decide)) (fun c267 => ?_)
      refine q_aload_n rfl rfl rfl ?_
      refine q_iload_n rfl rfl rfl ?_
      refine q_nV1 rfl rfl (Or.inl rfl) rfl rfl rfl (by decide) rfl ⟨rfl, rfl⟩ rfl ?_
      change PQ _ _ _ mm_X12_isSpent 0 [.ref 46, .int 2, pm_un, pm_un, pm_un] [] _ _ 0 0 _
      refine q_iload_n rfl rfl rfl ?_
      refine q_ifne rfl rfl (fun c268 => absurd c268 (by decide)) (fun c268 => ?_)
      refine q_iconst rfl rfl ?_
      refine q_ist2n rfl rfl rfl rfl ?_
      refine q_aload_n rfl rfl rfl ?_
      refine q_iconst rfl rfl ?_
      refine q_putf rfl rfl (by decide) rfl (by decide) rfl trivial ?_
      refine q_aload_n rfl rfl rfl ?_
      refine q_getf rfl rfl (by decide) rfl rfl ?_
      refine q_iload_n rfl rfl rfl ?_
      refine q_iald rfl rfl (by decide) rfl (by decide) (q_tn (z := 0) rfl ?_)
      refine q_ifeq rfl rfl (fun c269 => ?_) (fun c269 => absurd (by decide) c269)
      refine q_aload_n rfl rfl rfl ?_
      refine q_getf rfl rfl (by decide) rfl rfl ?_
      refine q_iload_n rfl rfl rfl ?_
      refine q_aload_n rfl rfl rfl ?_
      refine q_iload_n rfl rfl rfl ?_
      refine q_iload_n rfl rfl rfl ?_
      refine q_nV2 rfl rfl (Or.inl rfl) rfl rfl rfl (by decide) rfl ⟨rfl, rfl⟩ rfl ?_
      change PQ _ _ _ mm_X12_explore 0 [.ref 46, .int 1, .int 2, pm_un, pm_un, pm_un, pm_un, pm_un] [] _ _ 0 0 _
      refine q_iconst rfl rfl ?_
      refine q_ist3n rfl rfl rfl rfl ?_
      refine l_net (R := 1) (by decide) rfl (by decide) rfl rfl rfl ?_
      refine q_aload_n rfl rfl rfl ?_
      refine q_getf rfl rfl (by decide) rfl rfl ?_
      refine q_iload_n rfl rfl rfl ?_
      refine q_iconst rfl rfl ?_
      refine q_iast rfl rfl (by decide) rfl (by decide) ?_
      refine q_aload_n rfl rfl rfl ?_
      refine q_nV0v rfl rfl (Or.inl rfl) rfl rfl rfl (by decide) rfl ⟨rfl, rfl⟩ rfl ?_
      change PQ _ _ _ mm_X12_firstState 0 [.ref 46, pm_un] [] _ _ 0 0 _
      refine q_iconst rfl rfl ?_
      refine q_ist1n rfl rfl rfl rfl ?_
      refine q_iload_n rfl rfl rfl ?_
      refine q_bipush rfl rfl ?_
      refine q_icge rfl rfl (fun c270 => absurd c270 (by decide)) (fun c270 => ?_)
      refine q_aload_n rfl rfl rfl ?_
      refine q_getf rfl rfl (by decide) rfl rfl ?_
      refine q_iload_n rfl rfl rfl ?_
      refine q_iconst rfl rfl ?_
      refine q_iast rfl rfl (by decide) rfl (by decide) ?_
      refine q_icc1 (z := 1) rfl rfl rfl rfl rfl ?_
      refine q_goto rfl ?_
      refine q_iload_n rfl rfl rfl ?_
      refine q_bipush rfl rfl ?_
      refine q_icge rfl rfl (fun c271 => absurd c271 (by decide)) (fun c271 => ?_)
      refine q_aload_n rfl rfl rfl ?_
      refine q_getf rfl rfl (by decide) rfl rfl ?_
      refine q_iload_n rfl rfl rfl ?_
      refine q_iconst rfl rfl ?_
      refine q_iast rfl rfl (by decide) rfl (by decide) ?_
      refine q_icc1 (z := 2) rfl rfl rfl rfl rfl ?_
      refine q_goto rfl ?_
      refine q_iload_n rfl rfl rfl ?_
      refine q_bipush rfl rfl ?_
      refine q_icge rfl rfl (fun c272 => absurd c272 (by decide)) (fun c272 => ?_)
      refine q_aload_n rfl rfl rfl ?_
      refine q_getf rfl rfl (by decide) rfl rfl ?_
      refine q_iload_n rfl rfl rfl ?_
      refine q_iconst rfl rfl ?_
      refine q_iast rfl rfl (by decide) rfl (by decide) ?_
      refine q_icc1 (z := 3) rfl rfl rfl rfl rfl ?_
      refine q_goto rfl ?_
      refine q_iload_n rfl rfl rfl ?_
      refine q_bipush rfl rfl ?_
      refine q_icge rfl rfl (fun c273 => absurd c273 (by decide)) (fun c273 => ?_)
      refine q_aload_n rfl rfl rfl ?_
      refine q_getf rfl rfl (by decide) rfl rfl ?_
      refine q_iload_n rfl rfl rfl ?_
      refine q_iconst rfl rfl ?_
      refine q_iast rfl rfl (by decide) rfl (by decide) ?_
      refine q_icc1 (z := 4) rfl rfl rfl rfl rfl ?_
      refine q_goto rfl ?_
      refine q_iload_n rfl rfl rfl ?_
      refine q_bipush rfl rfl ?_
      refine q_icge rfl rfl (fun c274 => absurd c274 (by decide)) (fun c274 => ?_)
      refine q_aload_n rfl rfl rfl ?_
      refine q_getf rfl rfl (by decide) rfl rfl ?_
      refine q_iload_n rfl rfl rfl ?_
      refine q_iconst rfl rfl ?_
      refine q_iast rfl rfl (by decide) rfl (by decide) ?_
      refine q_icc1 (z := 5) rfl rfl rfl rfl rfl ?_
      refine q_goto rfl ?_
      refine q_iload_n rfl rfl rfl ?_
      refine q_bipush rfl rfl ?_
      refine q_icge rfl rfl (fun c275 => absurd c275 (by decide)) (fun c275 => ?_)
      refine q_aload_n rfl rfl rfl ?_
      refine q_getf rfl rfl (by decide) rfl rfl ?_
      refine q_iload_n rfl rfl rfl ?_
      refine q_iconst rfl rfl ?_
      refine q_iast rfl rfl (by decide) rfl (by decide) ?_
      refine q_icc1 (z := 6) rfl rfl rfl rfl rfl ?_
      refine q_goto rfl ?_
      refine q_iload_n rfl rfl rfl ?_
      refine q_bipush rfl rfl ?_
      refine q_icge rfl rfl (fun c276 => absurd c276 (by decide)) (fun c276 => ?_)
      refine q_aload_n rfl rfl rfl ?_
      refine q_getf rfl rfl (by decide) rfl rfl ?_
      refine q_iload_n rfl rfl rfl ?_
      refine q_iconst rfl rfl ?_
      refine q_iast rfl rfl (by decide) rfl (by decide) ?_
      refine q_icc1 (z := 7) rfl rfl rfl rfl rfl ?_
      refine q_goto rfl ?_
      refine q_iload_n rfl rfl rfl ?_
      refine q_bipush rfl rfl ?_
      refine q_icge rfl rfl (fun c277 => absurd c277 (by decide)) (fun c277 => ?_)
      refine q_aload_n rfl rfl rfl ?_
      refine q_getf rfl rfl (by decide) rfl rfl ?_
      refine q_iload_n rfl rfl rfl ?_
      refine q_iconst rfl rfl ?_
      refine q_iast rfl rfl (by decide) rfl (by decide) ?_
      refine q_icc1 (z := 8) rfl rfl rfl rfl rfl ?_
      refine q_goto rfl ?_
      refine q_iload_n rfl rfl rfl ?_
      refine q_bipush rfl rfl ?_
      refine q_icge rfl rfl (fun c278 => absurd c278 (by decide)) (fun c278 => ?_)
      refine q_aload_n rfl rfl rfl ?_
      refine q_getf rfl rfl (by decide) rfl rfl ?_
      refine q_iload_n rfl rfl rfl ?_
      refine q_iconst rfl rfl ?_
      refine q_iast rfl rfl (by decide) rfl (by decide) ?_
      refine q_icc1 (z := 9) rfl rfl rfl rfl rfl ?_
      refine q_goto rfl ?_
      refine q_iload_n rfl rfl rfl ?_
      refine q_bipush rfl rfl ?_
      refine q_icge rfl rfl (fun c279 => absurd c279 (by decide)) (fun c279 => ?_)
      refine q_aload_n rfl rfl rfl ?_
      refine q_getf rfl rfl (by decide) rfl rfl ?_
      refine q_iload_n rfl rfl rfl ?_
      refine q_iconst rfl rfl ?_
      refine q_iast rfl rfl (by decide) rfl (by decide) ?_
      refine q_icc1 (z := 10) rfl rfl rfl rfl rfl ?_
      refine q_goto rfl ?_
      refine q_iload_n rfl rfl rfl ?_
      refine q_bipush rfl rfl ?_
      refine q_icge rfl rfl (fun c280 => absurd c280 (by decide)) (fun c280 => ?_)
      refine q_aload_n rfl rfl rfl ?_
      refine q_getf rfl rfl (by decide) rfl rfl ?_
      as_aux_lemma =>
        refine q_iload_n rfl rfl rfl ?_
        refine q_iconst rfl rfl ?_
        refine q_iast rfl rfl (by decide) rfl (by decide) ?_
        refine q_icc1 (z := 11) rfl rfl rfl rfl rfl ?_
        refine q_goto rfl ?_
        refine q_iload_n rfl rfl rfl ?_
        refine q_bipush rfl rfl ?_
        refine q_icge rfl rfl (fun c281 => absurd c281 (by decide)) (fun c281 => ?_)
        refine q_aload_n rfl rfl rfl ?_
        refine q_getf rfl rfl (by decide) rfl rfl ?_
        refine q_iload_n rfl rfl rfl ?_
        refine q_iconst rfl rfl ?_
        refine q_iast rfl rfl (by decide) rfl (by decide) ?_
        refine q_icc1 (z := 12) rfl rfl rfl rfl rfl ?_
        refine q_goto rfl ?_
        refine q_iload_n rfl rfl rfl ?_
        refine q_bipush rfl rfl ?_
        refine q_icge rfl rfl (fun c282 => absurd c282 (by decide)) (fun c282 => ?_)
        refine q_aload_n rfl rfl rfl ?_
        refine q_getf rfl rfl (by decide) rfl rfl ?_
        refine q_iload_n rfl rfl rfl ?_
        refine q_iconst rfl rfl ?_
        refine q_iast rfl rfl (by decide) rfl (by decide) ?_
        refine q_icc1 (z := 13) rfl rfl rfl rfl rfl ?_
        refine q_goto rfl ?_
        refine q_iload_n rfl rfl rfl ?_
        refine q_bipush rfl rfl ?_
        refine q_icge rfl rfl (fun c283 => absurd c283 (by decide)) (fun c283 => ?_)
        refine q_aload_n rfl rfl rfl ?_
        refine q_getf rfl rfl (by decide) rfl rfl ?_
        refine q_iload_n rfl rfl rfl ?_
        refine q_iconst rfl rfl ?_
        refine q_iast rfl rfl (by decide) rfl (by decide) ?_
        refine q_icc1 (z := 14) rfl rfl rfl rfl rfl ?_
        refine q_goto rfl ?_
        refine q_iload_n rfl rfl rfl ?_
        refine q_bipush rfl rfl ?_
        refine q_icge rfl rfl (fun c284 => absurd c284 (by decide)) (fun c284 => ?_)
        refine q_aload_n rfl rfl rfl ?_
        refine q_getf rfl rfl (by decide) rfl rfl ?_
        refine q_iload_n rfl rfl rfl ?_
        refine q_iconst rfl rfl ?_
        refine q_iast rfl rfl (by decide) rfl (by decide) ?_
        refine q_icc1 (z := 15) rfl rfl rfl rfl rfl ?_
        refine q_goto rfl ?_
        refine q_iload_n rfl rfl rfl ?_
        refine q_bipush rfl rfl ?_
        refine q_icge rfl rfl (fun c285 => absurd c285 (by decide)) (fun c285 => ?_)
        refine q_aload_n rfl rfl rfl ?_
        refine q_getf rfl rfl (by decide) rfl rfl ?_
        refine q_iload_n rfl rfl rfl ?_
        refine q_iconst rfl rfl ?_
        refine q_iast rfl rfl (by decide) rfl (by decide) ?_
        refine q_icc1 (z := 16) rfl rfl rfl rfl rfl ?_
        refine q_goto rfl ?_
        refine q_iload_n rfl rfl rfl ?_
        refine q_bipush rfl rfl ?_
        refine q_icge rfl rfl (fun c286 => absurd c286 (by decide)) (fun c286 => ?_)
        refine q_aload_n rfl rfl rfl ?_
        refine q_getf rfl rfl (by decide) rfl rfl ?_
        refine q_iload_n rfl rfl rfl ?_
        refine q_iconst rfl rfl ?_
        refine q_iast rfl rfl (by decide) rfl (by decide) ?_
        refine q_icc1 (z := 17) rfl rfl rfl rfl rfl ?_
        refine q_goto rfl ?_
        refine q_iload_n rfl rfl rfl ?_
        refine q_bipush rfl rfl ?_
        refine q_icge rfl rfl (fun c287 => absurd c287 (by decide)) (fun c287 => ?_)
        refine q_aload_n rfl rfl rfl ?_
        refine q_getf rfl rfl (by decide) rfl rfl ?_
        refine q_iload_n rfl rfl rfl ?_
        refine q_iconst rfl rfl ?_
        refine q_iast rfl rfl (by decide) rfl (by decide) ?_
        refine q_icc1 (z := 18) rfl rfl rfl rfl rfl ?_
        refine q_goto rfl ?_
        refine q_iload_n rfl rfl rfl ?_
        refine q_bipush rfl rfl ?_
        refine q_icge rfl rfl (fun c288 => absurd c288 (by decide)) (fun c288 => ?_)
        refine q_aload_n rfl rfl rfl ?_
        refine q_getf rfl rfl (by decide) rfl rfl ?_
        refine q_iload_n rfl rfl rfl ?_
        refine q_iconst rfl rfl ?_
        refine q_iast rfl rfl (by decide) rfl (by decide) ?_
        refine q_icc1 (z := 19) rfl rfl rfl rfl rfl ?_
        refine q_goto rfl ?_
        refine q_iload_n rfl rfl rfl ?_
        refine q_bipush rfl rfl ?_
        refine q_icge rfl rfl (fun c289 => absurd c289 (by decide)) (fun c289 => ?_)
        refine q_aload_n rfl rfl rfl ?_
        refine q_getf rfl rfl (by decide) rfl rfl ?_
        refine q_iload_n rfl rfl rfl ?_
        refine q_iconst rfl rfl ?_
        refine q_iast rfl rfl (by decide) rfl (by decide) ?_
        refine q_icc1 (z := 20) rfl rfl rfl rfl rfl ?_
        refine q_goto rfl ?_
        refine q_iload_n rfl rfl rfl ?_
        refine q_bipush rfl rfl ?_
        refine q_icge rfl rfl (fun c290 => ?_) (fun c290 => absurd (by decide) c290)
        refine q_iconst rfl rfl ?_
        refine q_ist1n rfl rfl rfl rfl ?_
        refine q_iload_n rfl rfl rfl ?_
        refine q_aload_n rfl rfl rfl ?_
        refine q_getf rfl rfl (by decide) rfl rfl ?_
        refine q_icge rfl rfl (fun c291 => absurd c291 (by decide)) (fun c291 => ?_)
        refine q_aload_n rfl rfl rfl ?_
        refine q_getf rfl rfl (by decide) rfl rfl ?_
        refine q_iconst rfl rfl ?_
        refine q_iload_n rfl rfl rfl ?_
        refine q_imul rfl rfl (q_tn (z := 0) rfl ?_)
        refine q_aload_n rfl rfl rfl ?_
        refine q_getf rfl rfl (by decide) rfl rfl ?_
        refine q_aload_n rfl rfl rfl ?_
        refine q_getf rfl rfl (by decide) rfl rfl ?_
        refine q_iload_n rfl rfl rfl ?_
        refine q_iadd rfl rfl (q_tn (z := 0) rfl ?_)
        refine q_iald rfl rfl (by decide) ((FM_47 hM).trans (FW_47 S hW)) (by decide) (q_tn (z := 0) rfl ?_)
        refine q_ifne rfl rfl (fun c292 => ?_) (fun c292 => absurd (by decide) c292)
        refine q_bipush rfl rfl ?_
        refine q_goto rfl ?_
        refine q_iast rfl rfl (by decide) rfl (by decide) ?_
        refine q_icc1 (z := 1) rfl rfl rfl rfl rfl ?_
        refine q_goto rfl ?_
        refine q_iload_n rfl rfl rfl ?_
        refine q_aload_n rfl rfl rfl ?_
        refine q_getf rfl rfl (by decide) rfl rfl ?_
        refine q_icge rfl rfl (fun c293 => ?_) (fun c293 => absurd (by decide) c293)
        refine q_iconst rfl rfl ?_
        refine q_ist1n rfl rfl rfl rfl ?_
        refine q_iload_n rfl rfl rfl ?_
        refine q_iconst rfl rfl ?_
        refine q_icge rfl rfl (fun c294 => absurd c294 (by decide)) (fun c294 => ?_)
        refine q_aload_n rfl rfl rfl ?_
        refine q_getf rfl rfl (by decide) rfl rfl ?_
        refine q_bipush rfl rfl ?_
        refine q_iload_n rfl rfl rfl ?_
        refine q_iadd rfl rfl (q_tn (z := 12) rfl ?_)
        refine q_aload_n rfl rfl rfl ?_
        refine q_getf rfl rfl (by decide) rfl rfl ?_
        refine q_iload_n rfl rfl rfl ?_
        refine q_iald rfl rfl (by decide) ((FM_51 hM).trans (FW_51 S hW)) (by decide) (q_tn (z := 0) rfl ?_)
        refine q_iast rfl rfl (by decide) rfl (by decide) ?_
        refine q_icc1 (z := 1) rfl rfl rfl rfl rfl ?_
        refine q_goto rfl ?_
        refine q_iload_n rfl rfl rfl ?_
        refine q_iconst rfl rfl ?_
        refine q_icge rfl rfl (fun c295 => absurd c295 (by decide)) (fun c295 => ?_)
        refine q_aload_n rfl rfl rfl ?_
        refine q_getf rfl rfl (by decide) rfl rfl ?_
        refine q_bipush rfl rfl ?_
        refine q_iload_n rfl rfl rfl ?_
        refine q_iadd rfl rfl (q_tn (z := 13) rfl ?_)
        refine q_aload_n rfl rfl rfl ?_
        refine q_getf rfl rfl (by decide) rfl rfl ?_
        refine q_iload_n rfl rfl rfl ?_
        refine q_iald rfl rfl (by decide) ((FM_51 hM).trans (FW_51 S hW)) (by decide) (q_tn (z := 0) rfl ?_)
        refine q_iast rfl rfl (by decide) rfl (by decide) ?_
        refine q_icc1 (z := 2) rfl rfl rfl rfl rfl ?_
        refine q_goto rfl ?_
        refine q_iload_n rfl rfl rfl ?_
        refine q_iconst rfl rfl ?_
        refine q_icge rfl rfl (fun c296 => absurd c296 (by decide)) (fun c296 => ?_)
        refine q_aload_n rfl rfl rfl ?_
        refine q_getf rfl rfl (by decide) rfl rfl ?_
        refine q_bipush rfl rfl ?_
        refine q_iload_n rfl rfl rfl ?_
        refine q_iadd rfl rfl (q_tn (z := 14) rfl ?_)
        refine q_aload_n rfl rfl rfl ?_
        refine q_getf rfl rfl (by decide) rfl rfl ?_
        refine q_iload_n rfl rfl rfl ?_
        refine q_iald rfl rfl (by decide) ((FM_51 hM).trans (FW_51 S hW)) (by decide) (q_tn (z := 0) rfl ?_)
        refine q_iast rfl rfl (by decide) rfl (by decide) ?_
        refine q_icc1 (z := 3) rfl rfl rfl rfl rfl ?_
        refine q_goto rfl ?_
        refine q_iload_n rfl rfl rfl ?_
        refine q_iconst rfl rfl ?_
        refine q_icge rfl rfl (fun c297 => absurd c297 (by decide)) (fun c297 => ?_)
        refine q_aload_n rfl rfl rfl ?_
        refine q_getf rfl rfl (by decide) rfl rfl ?_
        refine q_bipush rfl rfl ?_
        refine q_iload_n rfl rfl rfl ?_
        refine q_iadd rfl rfl (q_tn (z := 15) rfl ?_)
        refine q_aload_n rfl rfl rfl ?_
        refine q_getf rfl rfl (by decide) rfl rfl ?_
        refine q_iload_n rfl rfl rfl ?_
        refine q_iald rfl rfl (by decide) ((FM_51 hM).trans (FW_51 S hW)) (by decide) (q_tn (z := 0) rfl ?_)
        refine q_iast rfl rfl (by decide) rfl (by decide) ?_
        refine q_icc1 (z := 4) rfl rfl rfl rfl rfl ?_
        refine q_goto rfl ?_
        refine q_iload_n rfl rfl rfl ?_
        refine q_iconst rfl rfl ?_
        refine q_icge rfl rfl (fun c298 => ?_) (fun c298 => absurd (by decide) c298)
        refine q_ret rfl rfl ?_
        refine ⟨rfl, ?_⟩
        refine q_iconst rfl rfl ?_
        refine q_ist3n rfl rfl rfl rfl ?_
        refine q_iload_n rfl rfl rfl ?_
        refine q_bipush rfl rfl ?_
        refine q_icge rfl rfl (fun c299 => absurd c299 (by decide)) (fun c299 => ?_)
        refine q_aload_n rfl rfl rfl ?_
        refine q_getf rfl rfl (by decide) rfl rfl ?_
        refine q_iload_n rfl rfl rfl ?_
        refine q_aload_n rfl rfl rfl ?_
        refine q_getf rfl rfl (by decide) rfl rfl ?_
        refine q_iload_n rfl rfl rfl ?_
        refine q_iald rfl rfl (by decide) rfl (by decide) (q_tn (z := 10) rfl ?_)
        refine q_iast rfl rfl (by decide) rfl (by decide) ?_
        refine q_icc3 (z := 1) rfl rfl rfl rfl rfl ?_
        refine q_goto rfl ?_
        refine q_iload_n rfl rfl rfl ?_
        refine q_bipush rfl rfl ?_
        refine q_icge rfl rfl (fun c300 => absurd c300 (by decide)) (fun c300 => ?_)
        refine q_aload_n rfl rfl rfl ?_
        refine q_getf rfl rfl (by decide) rfl rfl ?_
        refine q_iload_n rfl rfl rfl ?_
        refine q_aload_n rfl rfl rfl ?_
        refine q_getf rfl rfl (by decide) rfl rfl ?_
        refine q_iload_n rfl rfl rfl ?_
        refine q_iald rfl rfl (by decide) rfl (by decide) (q_tn (z := 0) rfl ?_)
        refine q_iast rfl rfl (by decide) rfl (by decide) ?_
        refine q_icc3 (z := 2) rfl rfl rfl rfl rfl ?_
        refine q_goto rfl ?_
        refine q_iload_n rfl rfl rfl ?_
        refine q_bipush rfl rfl ?_
        refine q_icge rfl rfl (fun c301 => absurd c301 (by decide)) (fun c301 => ?_)
        refine q_aload_n rfl rfl rfl ?_
        refine q_getf rfl rfl (by decide) rfl rfl ?_
        refine q_iload_n rfl rfl rfl ?_
        refine q_aload_n rfl rfl rfl ?_
        refine q_getf rfl rfl (by decide) rfl rfl ?_
        refine q_iload_n rfl rfl rfl ?_
        refine q_iald rfl rfl (by decide) rfl (by decide) (q_tn (z := 0) rfl ?_)
        refine q_iast rfl rfl (by decide) rfl (by decide) ?_
        refine q_icc3 (z := 3) rfl rfl rfl rfl rfl ?_
        refine q_goto rfl ?_
        refine q_iload_n rfl rfl rfl ?_
        refine q_bipush rfl rfl ?_
        refine q_icge rfl rfl (fun c302 => absurd c302 (by decide)) (fun c302 => ?_)
        refine q_aload_n rfl rfl rfl ?_
        refine q_getf rfl rfl (by decide) rfl rfl ?_
        refine q_iload_n rfl rfl rfl ?_
        refine q_aload_n rfl rfl rfl ?_
        refine q_getf rfl rfl (by decide) rfl rfl ?_
        refine q_iload_n rfl rfl rfl ?_
        refine q_iald rfl rfl (by decide) rfl (by decide) (q_tn (z := 0) rfl ?_)
        refine q_iast rfl rfl (by decide) rfl (by decide) ?_
        refine q_icc3 (z := 4) rfl rfl rfl rfl rfl ?_
        refine q_goto rfl ?_
        refine q_iload_n rfl rfl rfl ?_
        refine q_bipush rfl rfl ?_
        refine q_icge rfl rfl (fun c303 => absurd c303 (by decide)) (fun c303 => ?_)
        refine q_aload_n rfl rfl rfl ?_
        refine q_getf rfl rfl (by decide) rfl rfl ?_
        refine q_iload_n rfl rfl rfl ?_
        refine q_aload_n rfl rfl rfl ?_
        refine q_getf rfl rfl (by decide) rfl rfl ?_
        refine q_iload_n rfl rfl rfl ?_
        refine q_iald rfl rfl (by decide) rfl (by decide) (q_tn (z := 0) rfl ?_)
        refine q_iast rfl rfl (by decide) rfl (by decide) ?_
        refine q_icc3 (z := 5) rfl rfl rfl rfl rfl ?_
        refine q_goto rfl ?_
        refine q_iload_n rfl rfl rfl ?_
        refine q_bipush rfl rfl ?_
        refine q_icge rfl rfl (fun c304 => absurd c304 (by decide)) (fun c304 => ?_)
        refine q_aload_n rfl rfl rfl ?_
        refine q_getf rfl rfl (by decide) rfl rfl ?_
        refine q_iload_n rfl rfl rfl ?_
        refine q_aload_n rfl rfl rfl ?_
        refine q_getf rfl rfl (by decide) rfl rfl ?_
        refine q_iload_n rfl rfl rfl ?_
        refine q_iald rfl rfl (by decide) rfl (by decide) (q_tn (z := 0) rfl ?_)
        refine q_iast rfl rfl (by decide) rfl (by decide) ?_
        refine q_icc3 (z := 6) rfl rfl rfl rfl rfl ?_
        refine q_goto rfl ?_
        refine q_iload_n rfl rfl rfl ?_
        refine q_bipush rfl rfl ?_
        refine q_icge rfl rfl (fun c305 => absurd c305 (by decide)) (fun c305 => ?_)
        refine q_aload_n rfl rfl rfl ?_
        refine q_getf rfl rfl (by decide) rfl rfl ?_
        refine q_iload_n rfl rfl rfl ?_
        refine q_aload_n rfl rfl rfl ?_
        refine q_getf rfl rfl (by decide) rfl rfl ?_
        refine q_iload_n rfl rfl rfl ?_
        refine q_iald rfl rfl (by decide) rfl (by decide) (q_tn (z := 0) rfl ?_)
        refine q_iast rfl rfl (by decide) rfl (by decide) ?_
        refine q_icc3 (z := 7) rfl rfl rfl rfl rfl ?_
        refine q_goto rfl ?_
        refine q_iload_n rfl rfl rfl ?_
        refine q_bipush rfl rfl ?_
        refine q_icge rfl rfl (fun c306 => absurd c306 (by decide)) (fun c306 => ?_)
        refine q_aload_n rfl rfl rfl ?_
        refine q_getf rfl rfl (by decide) rfl rfl ?_
        refine q_iload_n rfl rfl rfl ?_
        refine q_aload_n rfl rfl rfl ?_
        refine q_getf rfl rfl (by decide) rfl rfl ?_
        refine q_iload_n rfl rfl rfl ?_
        refine q_iald rfl rfl (by decide) rfl (by decide) (q_tn (z := 0) rfl ?_)
        refine q_iast rfl rfl (by decide) rfl (by decide) ?_
        refine q_icc3 (z := 8) rfl rfl rfl rfl rfl ?_
        refine q_goto rfl ?_
        refine q_iload_n rfl rfl rfl ?_
        refine q_bipush rfl rfl ?_
        refine q_icge rfl rfl (fun c307 => absurd c307 (by decide)) (fun c307 => ?_)
        refine q_aload_n rfl rfl rfl ?_
        refine q_getf rfl rfl (by decide) rfl rfl ?_
        refine q_iload_n rfl rfl rfl ?_
        refine q_aload_n rfl rfl rfl ?_
        refine q_getf rfl rfl (by decide) rfl rfl ?_
        refine q_iload_n rfl rfl rfl ?_
        refine q_iald rfl rfl (by decide) rfl (by decide) (q_tn (z := 0) rfl ?_)
        refine q_iast rfl rfl (by decide) rfl (by decide) ?_
        refine q_icc3 (z := 9) rfl rfl rfl rfl rfl ?_
        refine q_goto rfl ?_
        refine q_iload_n rfl rfl rfl ?_
        refine q_bipush rfl rfl ?_
        refine q_icge rfl rfl (fun c308 => absurd c308 (by decide)) (fun c308 => ?_)
        refine q_aload_n rfl rfl rfl ?_
        refine q_getf rfl rfl (by decide) rfl rfl ?_
        refine q_iload_n rfl rfl rfl ?_
        refine q_aload_n rfl rfl rfl ?_
        refine q_getf rfl rfl (by decide) rfl rfl ?_
        refine q_iload_n rfl rfl rfl ?_
        refine q_iald rfl rfl (by decide) rfl (by decide) (q_tn (z := 0) rfl ?_)
        refine q_iast rfl rfl (by decide) rfl (by decide) ?_
        refine q_icc3 (z := 10) rfl rfl rfl rfl rfl ?_
        refine q_goto rfl ?_
        refine q_iload_n rfl rfl rfl ?_
        refine q_bipush rfl rfl ?_
        refine q_icge rfl rfl (fun c309 => absurd c309 (by decide)) (fun c309 => ?_)
        refine q_aload_n rfl rfl rfl ?_
        refine q_getf rfl rfl (by decide) rfl rfl ?_
        refine q_iload_n rfl rfl rfl ?_
        refine q_aload_n rfl rfl rfl ?_
        refine q_getf rfl rfl (by decide) rfl rfl ?_
        refine q_iload_n rfl rfl rfl ?_
        refine q_iald rfl rfl (by decide) rfl (by decide) (q_tn (z := 0) rfl ?_)
        refine q_iast rfl rfl (by decide) rfl (by decide) ?_
        refine q_icc3 (z := 11) rfl rfl rfl rfl rfl ?_
        refine q_goto rfl ?_
        refine q_iload_n rfl rfl rfl ?_
        refine q_bipush rfl rfl ?_
        refine q_icge rfl rfl (fun c310 => absurd c310 (by decide)) (fun c310 => ?_)
        refine q_aload_n rfl rfl rfl ?_
        refine q_getf rfl rfl (by decide) rfl rfl ?_
        refine q_iload_n rfl rfl rfl ?_
        refine q_aload_n rfl rfl rfl ?_
        refine q_getf rfl rfl (by decide) rfl rfl ?_
        refine q_iload_n rfl rfl rfl ?_
        refine q_iald rfl rfl (by decide) rfl (by decide) (q_tn (z := 0) rfl ?_)
        refine q_iast rfl rfl (by decide) rfl (by decide) ?_
        refine q_icc3 (z := 12) rfl rfl rfl rfl rfl ?_
        refine q_goto rfl ?_
        refine q_iload_n rfl rfl rfl ?_
        refine q_bipush rfl rfl ?_
        refine q_icge rfl rfl (fun c311 => absurd c311 (by decide)) (fun c311 => ?_)
        refine q_aload_n rfl rfl rfl ?_
        refine q_getf rfl rfl (by decide) rfl rfl ?_
        refine q_iload_n rfl rfl rfl ?_
        refine q_aload_n rfl rfl rfl ?_
        refine q_getf rfl rfl (by decide) rfl rfl ?_
        refine q_iload_n rfl rfl rfl ?_
        refine q_iald rfl rfl (by decide) rfl (by decide) (q_tn (z := 0) rfl ?_)
        refine q_iast rfl rfl (by decide) rfl (by decide) ?_
        refine q_icc3 (z := 13) rfl rfl rfl rfl rfl ?_
        refine q_goto rfl ?_
        refine q_iload_n rfl rfl rfl ?_
        refine q_bipush rfl rfl ?_
        refine q_icge rfl rfl (fun c312 => absurd c312 (by decide)) (fun c312 => ?_)
        refine q_aload_n rfl rfl rfl ?_
        refine q_getf rfl rfl (by decide) rfl rfl ?_
        refine q_iload_n rfl rfl rfl ?_
        refine q_aload_n rfl rfl rfl ?_
        refine q_getf rfl rfl (by decide) rfl rfl ?_
        refine q_iload_n rfl rfl rfl ?_
        refine q_iald rfl rfl (by decide) rfl (by decide) (q_tn (z := 0) rfl ?_)
        refine q_iast rfl rfl (by decide) rfl (by decide) ?_
        refine q_icc3 (z := 14) rfl rfl rfl rfl rfl ?_
        refine q_goto rfl ?_
        refine q_iload_n rfl rfl rfl ?_
        refine q_bipush rfl rfl ?_
        refine q_icge rfl rfl (fun c313 => absurd c313 (by decide)) (fun c313 => ?_)
        refine q_aload_n rfl rfl rfl ?_
        refine q_getf rfl rfl (by decide) rfl rfl ?_
        refine q_iload_n rfl rfl rfl ?_
        refine q_aload_n rfl rfl rfl ?_
        refine q_getf rfl rfl (by decide) rfl rfl ?_
        refine q_iload_n rfl rfl rfl ?_
        refine q_iald rfl rfl (by decide) rfl (by decide) (q_tn (z := 0) rfl ?_)
        refine q_iast rfl rfl (by decide) rfl (by decide) ?_
        refine q_icc3 (z := 15) rfl rfl rfl rfl rfl ?_
        refine q_goto rfl ?_
        refine q_iload_n rfl rfl rfl ?_
        refine q_bipush rfl rfl ?_
        refine q_icge rfl rfl (fun c314 => absurd c314 (by decide)) (fun c314 => ?_)
        refine q_aload_n rfl rfl rfl ?_
        refine q_getf rfl rfl (by decide) rfl rfl ?_
        refine q_iload_n rfl rfl rfl ?_
        refine q_aload_n rfl rfl rfl ?_
        refine q_getf rfl rfl (by decide) rfl rfl ?_
        refine q_iload_n rfl rfl rfl ?_
        refine q_iald rfl rfl (by decide) rfl (by decide) (q_tn (z := 0) rfl ?_)
        refine q_iast rfl rfl (by decide) rfl (by decide) ?_
        refine q_icc3 (z := 16) rfl rfl rfl rfl rfl ?_
        refine q_goto rfl ?_
        refine q_iload_n rfl rfl rfl ?_
        refine q_bipush rfl rfl ?_
        refine q_icge rfl rfl (fun c315 => absurd c315 (by decide)) (fun c315 => ?_)
        refine q_aload_n rfl rfl rfl ?_
        refine q_getf rfl rfl (by decide) rfl rfl ?_
        refine q_iload_n rfl rfl rfl ?_
        refine q_aload_n rfl rfl rfl ?_
        refine q_getf rfl rfl (by decide) rfl rfl ?_
        refine q_iload_n rfl rfl rfl ?_
        refine q_iald rfl rfl (by decide) rfl (by decide) (q_tn (z := 0) rfl ?_)
        refine q_iast rfl rfl (by decide) rfl (by decide) ?_
        refine q_icc3 (z := 17) rfl rfl rfl rfl rfl ?_
        refine q_goto rfl ?_
        refine q_iload_n rfl rfl rfl ?_
        refine q_bipush rfl rfl ?_
        refine q_icge rfl rfl (fun c316 => absurd c316 (by decide)) (fun c316 => ?_)
        refine q_aload_n rfl rfl rfl ?_
        refine q_getf rfl rfl (by decide) rfl rfl ?_
        refine q_iload_n rfl rfl rfl ?_
        refine q_aload_n rfl rfl rfl ?_
        refine q_getf rfl rfl (by decide) rfl rfl ?_
        refine q_iload_n rfl rfl rfl ?_
        refine q_iald rfl rfl (by decide) rfl (by decide) (q_tn (z := 0) rfl ?_)
        refine q_iast rfl rfl (by decide) rfl (by decide) ?_
        refine q_icc3 (z := 18) rfl rfl rfl rfl rfl ?_
        refine q_goto rfl ?_
        refine q_iload_n rfl rfl rfl ?_
        refine q_bipush rfl rfl ?_
        refine q_icge rfl rfl (fun c317 => absurd c317 (by decide)) (fun c317 => ?_)
        refine q_aload_n rfl rfl rfl ?_
        refine q_getf rfl rfl (by decide) rfl rfl ?_
        refine q_iload_n rfl rfl rfl ?_
        refine q_aload_n rfl rfl rfl ?_
        refine q_getf rfl rfl (by decide) rfl rfl ?_
        refine q_iload_n rfl rfl rfl ?_
        refine q_iald rfl rfl (by decide) rfl (by decide) (q_tn (z := 0) rfl ?_)
        refine q_iast rfl rfl (by decide) rfl (by decide) ?_
        refine q_icc3 (z := 19) rfl rfl rfl rfl rfl ?_
        refine q_goto rfl ?_
        refine q_iload_n rfl rfl rfl ?_
        refine q_bipush rfl rfl ?_
        refine q_icge rfl rfl (fun c318 => absurd c318 (by decide)) (fun c318 => ?_)
        refine q_aload_n rfl rfl rfl ?_
        refine q_getf rfl rfl (by decide) rfl rfl ?_
        refine q_iload_n rfl rfl rfl ?_
        refine q_aload_n rfl rfl rfl ?_
        refine q_getf rfl rfl (by decide) rfl rfl ?_
        refine q_iload_n rfl rfl rfl ?_
        refine q_iald rfl rfl (by decide) rfl (by decide) (q_tn (z := 0) rfl ?_)
        refine q_iast rfl rfl (by decide) rfl (by decide) ?_
        refine q_icc3 (z := 20) rfl rfl rfl rfl rfl ?_
        refine q_goto rfl ?_
        refine q_iload_n rfl rfl rfl ?_
        refine q_bipush rfl rfl ?_
        refine q_icge rfl rfl (fun c319 => ?_) (fun c319 => absurd (by decide) c319)
        refine q_aload_n rfl rfl rfl ?_
        refine q_iload_n rfl rfl rfl ?_
        refine q_iconst rfl rfl ?_
        refine q_iconst rfl rfl ?_
        refine q_nV3 rfl rfl (Or.inl rfl) rfl rfl rfl (by decide) rfl ⟨rfl, rfl⟩ rfl ?_
        change PQ _ _ _ mm_X12_put 0 [.ref 46, .int 1, .int (-1), .int (-1), pm_un, pm_un, pm_un] [] _ _ 0 0 _
        refine q_aload_n rfl rfl rfl ?_
        refine q_getf rfl rfl (by decide) rfl rfl ?_
        refine q_iload_n rfl rfl rfl ?_
        refine q_iald rfl rfl (by decide) rfl (by decide) (q_tn (z := 0) rfl ?_)
        refine q_ist4 rfl rfl rfl rfl ?_
        refine q_iload rfl rfl rfl ?_
        refine q_sipush rfl rfl ?_
        refine q_icne rfl rfl (fun c320 => absurd c320 (by decide)) (fun c320 => ?_)
        refine q_sipush rfl rfl ?_
        refine q_iload_n rfl rfl rfl ?_
        refine q_imul rfl rfl (q_tn (z := 2000) rfl ?_)
        refine q_iload rfl rfl rfl ?_
        refine q_iadd rfl rfl (q_tn (z := 2000) rfl ?_)
        refine q_ist5 rfl rfl rfl rfl ?_
        refine q_iconst rfl rfl ?_
        refine q_ist6 rfl rfl rfl rfl ?_
        refine q_iload rfl rfl rfl ?_
        refine q_bipush rfl rfl ?_
        refine q_icge rfl rfl (fun c321 => absurd c321 (by decide)) (fun c321 => ?_)
        refine q_aload_n rfl rfl rfl ?_
        refine q_getf rfl rfl (by decide) rfl rfl ?_
        refine q_bipush rfl rfl ?_
        refine q_iload rfl rfl rfl ?_
        refine q_imul rfl rfl (q_tn (z := 40000) rfl ?_)
        refine q_iload rfl rfl rfl ?_
        refine q_iadd rfl rfl (q_tn (z := 40000) rfl ?_)
        refine q_aload_n rfl rfl rfl ?_
        refine q_getf rfl rfl (by decide) rfl rfl ?_
        refine q_iload rfl rfl rfl ?_
        refine q_iald rfl rfl (by decide) rfl (by decide) (q_tn (z := 10) rfl ?_)
        refine q_iast rfl rfl (by decide) rfl (by decide) ?_
        refine q_icc6 (z := 1) rfl rfl rfl rfl rfl ?_
        refine q_goto rfl ?_
        refine q_iload rfl rfl rfl ?_
        refine q_bipush rfl rfl ?_
        refine q_icge rfl rfl (fun c322 => absurd c322 (by decide)) (fun c322 => ?_)
        refine q_aload_n rfl rfl rfl ?_
        refine q_getf rfl rfl (by decide) rfl rfl ?_
        refine q_bipush rfl rfl ?_
        refine q_iload rfl rfl rfl ?_
        refine q_imul rfl rfl (q_tn (z := 40000) rfl ?_)
        refine q_iload rfl rfl rfl ?_
        refine q_iadd rfl rfl (q_tn (z := 40001) rfl ?_)
        refine q_aload_n rfl rfl rfl ?_
        refine q_getf rfl rfl (by decide) rfl rfl ?_
        refine q_iload rfl rfl rfl ?_
        refine q_iald rfl rfl (by decide) rfl (by decide) (q_tn (z := 0) rfl ?_)
        refine q_iast rfl rfl (by decide) rfl (by decide) ?_
        refine q_icc6 (z := 2) rfl rfl rfl rfl rfl ?_
        refine q_goto rfl ?_
        refine q_iload rfl rfl rfl ?_
        refine q_bipush rfl rfl ?_
        refine q_icge rfl rfl (fun c323 => absurd c323 (by decide)) (fun c323 => ?_)
        refine q_aload_n rfl rfl rfl ?_
        refine q_getf rfl rfl (by decide) rfl rfl ?_
        refine q_bipush rfl rfl ?_
        refine q_iload rfl rfl rfl ?_
        refine q_imul rfl rfl (q_tn (z := 40000) rfl ?_)
        refine q_iload rfl rfl rfl ?_
        refine q_iadd rfl rfl (q_tn (z := 40002) rfl ?_)
        refine q_aload_n rfl rfl rfl ?_
        refine q_getf rfl rfl (by decide) rfl rfl ?_
        refine q_iload rfl rfl rfl ?_
        refine q_iald rfl rfl (by decide) rfl (by decide) (q_tn (z := 0) rfl ?_)
        refine q_iast rfl rfl (by decide) rfl (by decide) ?_
        refine q_icc6 (z := 3) rfl rfl rfl rfl rfl ?_
        refine q_goto rfl ?_
        refine q_iload rfl rfl rfl ?_
        refine q_bipush rfl rfl ?_
        refine q_icge rfl rfl (fun c324 => absurd c324 (by decide)) (fun c324 => ?_)
        refine q_aload_n rfl rfl rfl ?_
        refine q_getf rfl rfl (by decide) rfl rfl ?_
        refine q_bipush rfl rfl ?_
        refine q_iload rfl rfl rfl ?_
        refine q_imul rfl rfl (q_tn (z := 40000) rfl ?_)
        refine q_iload rfl rfl rfl ?_
        refine q_iadd rfl rfl (q_tn (z := 40003) rfl ?_)
        refine q_aload_n rfl rfl rfl ?_
        refine q_getf rfl rfl (by decide) rfl rfl ?_
        refine q_iload rfl rfl rfl ?_
        refine q_iald rfl rfl (by decide) rfl (by decide) (q_tn (z := 0) rfl ?_)
        refine q_iast rfl rfl (by decide) rfl (by decide) ?_
        refine q_icc6 (z := 4) rfl rfl rfl rfl rfl ?_
        refine q_goto rfl ?_
        refine q_iload rfl rfl rfl ?_
        refine q_bipush rfl rfl ?_
        refine q_icge rfl rfl (fun c325 => absurd c325 (by decide)) (fun c325 => ?_)
        refine q_aload_n rfl rfl rfl ?_
        refine q_getf rfl rfl (by decide) rfl rfl ?_
        refine q_bipush rfl rfl ?_
        refine q_iload rfl rfl rfl ?_
        refine q_imul rfl rfl (q_tn (z := 40000) rfl ?_)
        refine q_iload rfl rfl rfl ?_
        refine q_iadd rfl rfl (q_tn (z := 40004) rfl ?_)
        refine q_aload_n rfl rfl rfl ?_
        refine q_getf rfl rfl (by decide) rfl rfl ?_
        refine q_iload rfl rfl rfl ?_
        refine q_iald rfl rfl (by decide) rfl (by decide) (q_tn (z := 0) rfl ?_)
        refine q_iast rfl rfl (by decide) rfl (by decide) ?_
        refine q_icc6 (z := 5) rfl rfl rfl rfl rfl ?_
        refine q_goto rfl ?_
        refine q_iload rfl rfl rfl ?_
        refine q_bipush rfl rfl ?_
        refine q_icge rfl rfl (fun c326 => absurd c326 (by decide)) (fun c326 => ?_)
        refine q_aload_n rfl rfl rfl ?_
        refine q_getf rfl rfl (by decide) rfl rfl ?_
        refine q_bipush rfl rfl ?_
        refine q_iload rfl rfl rfl ?_
        refine q_imul rfl rfl (q_tn (z := 40000) rfl ?_)
        refine q_iload rfl rfl rfl ?_
        refine q_iadd rfl rfl (q_tn (z := 40005) rfl ?_)
        refine q_aload_n rfl rfl rfl ?_
        refine q_getf rfl rfl (by decide) rfl rfl ?_
        refine q_iload rfl rfl rfl ?_
        refine q_iald rfl rfl (by decide) rfl (by decide) (q_tn (z := 0) rfl ?_)
        refine q_iast rfl rfl (by decide) rfl (by decide) ?_
        refine q_icc6 (z := 6) rfl rfl rfl rfl rfl ?_
        refine q_goto rfl ?_
        refine q_iload rfl rfl rfl ?_
        refine q_bipush rfl rfl ?_
        refine q_icge rfl rfl (fun c327 => absurd c327 (by decide)) (fun c327 => ?_)
        refine q_aload_n rfl rfl rfl ?_
        refine q_getf rfl rfl (by decide) rfl rfl ?_
        refine q_bipush rfl rfl ?_
        refine q_iload rfl rfl rfl ?_
        refine q_imul rfl rfl (q_tn (z := 40000) rfl ?_)
        refine q_iload rfl rfl rfl ?_
        refine q_iadd rfl rfl (q_tn (z := 40006) rfl ?_)
        refine q_aload_n rfl rfl rfl ?_
        refine q_getf rfl rfl (by decide) rfl rfl ?_
        refine q_iload rfl rfl rfl ?_
        refine q_iald rfl rfl (by decide) rfl (by decide) (q_tn (z := 0) rfl ?_)
        refine q_iast rfl rfl (by decide) rfl (by decide) ?_
        refine q_icc6 (z := 7) rfl rfl rfl rfl rfl ?_
        refine q_goto rfl ?_
        refine q_iload rfl rfl rfl ?_
        refine q_bipush rfl rfl ?_
        refine q_icge rfl rfl (fun c328 => absurd c328 (by decide)) (fun c328 => ?_)
        refine q_aload_n rfl rfl rfl ?_
        refine q_getf rfl rfl (by decide) rfl rfl ?_
        refine q_bipush rfl rfl ?_
        refine q_iload rfl rfl rfl ?_
        refine q_imul rfl rfl (q_tn (z := 40000) rfl ?_)
        refine q_iload rfl rfl rfl ?_
        refine q_iadd rfl rfl (q_tn (z := 40007) rfl ?_)
        refine q_aload_n rfl rfl rfl ?_
        refine q_getf rfl rfl (by decide) rfl rfl ?_
        refine q_iload rfl rfl rfl ?_
        refine q_iald rfl rfl (by decide) rfl (by decide) (q_tn (z := 0) rfl ?_)
        refine q_iast rfl rfl (by decide) rfl (by decide) ?_
        refine q_icc6 (z := 8) rfl rfl rfl rfl rfl ?_
        refine q_goto rfl ?_
        refine q_iload rfl rfl rfl ?_
        refine q_bipush rfl rfl ?_
        refine q_icge rfl rfl (fun c329 => absurd c329 (by decide)) (fun c329 => ?_)
        refine q_aload_n rfl rfl rfl ?_
        refine q_getf rfl rfl (by decide) rfl rfl ?_
        refine q_bipush rfl rfl ?_
        refine q_iload rfl rfl rfl ?_
        refine q_imul rfl rfl (q_tn (z := 40000) rfl ?_)
        refine q_iload rfl rfl rfl ?_
        refine q_iadd rfl rfl (q_tn (z := 40008) rfl ?_)
        refine q_aload_n rfl rfl rfl ?_
        refine q_getf rfl rfl (by decide) rfl rfl ?_
        refine q_iload rfl rfl rfl ?_
        refine q_iald rfl rfl (by decide) rfl (by decide) (q_tn (z := 0) rfl ?_)
        refine q_iast rfl rfl (by decide) rfl (by decide) ?_
        refine q_icc6 (z := 9) rfl rfl rfl rfl rfl ?_
        refine q_goto rfl ?_
        refine q_iload rfl rfl rfl ?_
        refine q_bipush rfl rfl ?_
        refine q_icge rfl rfl (fun c330 => absurd c330 (by decide)) (fun c330 => ?_)
        refine q_aload_n rfl rfl rfl ?_
        refine q_getf rfl rfl (by decide) rfl rfl ?_
        refine q_bipush rfl rfl ?_
        refine q_iload rfl rfl rfl ?_
        refine q_imul rfl rfl (q_tn (z := 40000) rfl ?_)
        refine q_iload rfl rfl rfl ?_
        refine q_iadd rfl rfl (q_tn (z := 40009) rfl ?_)
        refine q_aload_n rfl rfl rfl ?_
        refine q_getf rfl rfl (by decide) rfl rfl ?_
        refine q_iload rfl rfl rfl ?_
        refine q_iald rfl rfl (by decide) rfl (by decide) (q_tn (z := 0) rfl ?_)
        refine q_iast rfl rfl (by decide) rfl (by decide) ?_
        refine q_icc6 (z := 10) rfl rfl rfl rfl rfl ?_
        refine q_goto rfl ?_
        refine q_iload rfl rfl rfl ?_
        refine q_bipush rfl rfl ?_
        refine q_icge rfl rfl (fun c331 => absurd c331 (by decide)) (fun c331 => ?_)
        refine q_aload_n rfl rfl rfl ?_
        refine q_getf rfl rfl (by decide) rfl rfl ?_
        refine q_bipush rfl rfl ?_
        refine q_iload rfl rfl rfl ?_
        refine q_imul rfl rfl (q_tn (z := 40000) rfl ?_)
        refine q_iload rfl rfl rfl ?_
        refine q_iadd rfl rfl (q_tn (z := 40010) rfl ?_)
        refine q_aload_n rfl rfl rfl ?_
        refine q_getf rfl rfl (by decide) rfl rfl ?_
        refine q_iload rfl rfl rfl ?_
        refine q_iald rfl rfl (by decide) rfl (by decide) (q_tn (z := 0) rfl ?_)
        refine q_iast rfl rfl (by decide) rfl (by decide) ?_
        refine q_icc6 (z := 11) rfl rfl rfl rfl rfl ?_
        refine q_goto rfl ?_
        refine q_iload rfl rfl rfl ?_
        refine q_bipush rfl rfl ?_
        refine q_icge rfl rfl (fun c332 => absurd c332 (by decide)) (fun c332 => ?_)
        refine q_aload_n rfl rfl rfl ?_
        refine q_getf rfl rfl (by decide) rfl rfl ?_
        refine q_bipush rfl rfl ?_
        refine q_iload rfl rfl rfl ?_
        refine q_imul rfl rfl (q_tn (z := 40000) rfl ?_)
        refine q_iload rfl rfl rfl ?_
        refine q_iadd rfl rfl (q_tn (z := 40011) rfl ?_)
        refine q_aload_n rfl rfl rfl ?_
        refine q_getf rfl rfl (by decide) rfl rfl ?_
        refine q_iload rfl rfl rfl ?_
        refine q_iald rfl rfl (by decide) rfl (by decide) (q_tn (z := 0) rfl ?_)
        refine q_iast rfl rfl (by decide) rfl (by decide) ?_
        refine q_icc6 (z := 12) rfl rfl rfl rfl rfl ?_
        refine q_goto rfl ?_
        refine q_iload rfl rfl rfl ?_
        refine q_bipush rfl rfl ?_
        refine q_icge rfl rfl (fun c333 => absurd c333 (by decide)) (fun c333 => ?_)
        refine q_aload_n rfl rfl rfl ?_
        refine q_getf rfl rfl (by decide) rfl rfl ?_
        refine q_bipush rfl rfl ?_
        refine q_iload rfl rfl rfl ?_
        refine q_imul rfl rfl (q_tn (z := 40000) rfl ?_)
        refine q_iload rfl rfl rfl ?_
        refine q_iadd rfl rfl (q_tn (z := 40012) rfl ?_)
        refine q_aload_n rfl rfl rfl ?_
        refine q_getf rfl rfl (by decide) rfl rfl ?_
        refine q_iload rfl rfl rfl ?_
        refine q_iald rfl rfl (by decide) rfl (by decide) (q_tn (z := 0) rfl ?_)
        refine q_iast rfl rfl (by decide) rfl (by decide) ?_
        refine q_icc6 (z := 13) rfl rfl rfl rfl rfl ?_
        refine q_goto rfl ?_
        refine q_iload rfl rfl rfl ?_
        refine q_bipush rfl rfl ?_
        refine q_icge rfl rfl (fun c334 => absurd c334 (by decide)) (fun c334 => ?_)
        refine q_aload_n rfl rfl rfl ?_
        refine q_getf rfl rfl (by decide) rfl rfl ?_
        refine q_bipush rfl rfl ?_
        refine q_iload rfl rfl rfl ?_
        refine q_imul rfl rfl (q_tn (z := 40000) rfl ?_)
        refine q_iload rfl rfl rfl ?_
        refine q_iadd rfl rfl (q_tn (z := 40013) rfl ?_)
        refine q_aload_n rfl rfl rfl ?_
        refine q_getf rfl rfl (by decide) rfl rfl ?_
        refine q_iload rfl rfl rfl ?_
        refine q_iald rfl rfl (by decide) rfl (by decide) (q_tn (z := 0) rfl ?_)
        refine q_iast rfl rfl (by decide) rfl (by decide) ?_
        refine q_icc6 (z := 14) rfl rfl rfl rfl rfl ?_
        refine q_goto rfl ?_
        refine q_iload rfl rfl rfl ?_
        refine q_bipush rfl rfl ?_
        refine q_icge rfl rfl (fun c335 => absurd c335 (by decide)) (fun c335 => ?_)
        refine q_aload_n rfl rfl rfl ?_
        refine q_getf rfl rfl (by decide) rfl rfl ?_
        refine q_bipush rfl rfl ?_
        refine q_iload rfl rfl rfl ?_
        refine q_imul rfl rfl (q_tn (z := 40000) rfl ?_)
        refine q_iload rfl rfl rfl ?_
        refine q_iadd rfl rfl (q_tn (z := 40014) rfl ?_)
        refine q_aload_n rfl rfl rfl ?_
        refine q_getf rfl rfl (by decide) rfl rfl ?_
        refine q_iload rfl rfl rfl ?_
        refine q_iald rfl rfl (by decide) rfl (by decide) (q_tn (z := 0) rfl ?_)
        refine q_iast rfl rfl (by decide) rfl (by decide) ?_
        refine q_icc6 (z := 15) rfl rfl rfl rfl rfl ?_
        refine q_goto rfl ?_
        refine q_iload rfl rfl rfl ?_
        refine q_bipush rfl rfl ?_
        refine q_icge rfl rfl (fun c336 => absurd c336 (by decide)) (fun c336 => ?_)
        refine q_aload_n rfl rfl rfl ?_
        refine q_getf rfl rfl (by decide) rfl rfl ?_
        refine q_bipush rfl rfl ?_
        refine q_iload rfl rfl rfl ?_
        refine q_imul rfl rfl (q_tn (z := 40000) rfl ?_)
        refine q_iload rfl rfl rfl ?_
        refine q_iadd rfl rfl (q_tn (z := 40015) rfl ?_)
        refine q_aload_n rfl rfl rfl ?_
        refine q_getf rfl rfl (by decide) rfl rfl ?_
        refine q_iload rfl rfl rfl ?_
        refine q_iald rfl rfl (by decide) rfl (by decide) (q_tn (z := 0) rfl ?_)
        refine q_iast rfl rfl (by decide) rfl (by decide) ?_
        refine q_icc6 (z := 16) rfl rfl rfl rfl rfl ?_
        refine q_goto rfl ?_
        refine q_iload rfl rfl rfl ?_
        refine q_bipush rfl rfl ?_
        refine q_icge rfl rfl (fun c337 => absurd c337 (by decide)) (fun c337 => ?_)
        refine q_aload_n rfl rfl rfl ?_
        refine q_getf rfl rfl (by decide) rfl rfl ?_
        refine q_bipush rfl rfl ?_
        refine q_iload rfl rfl rfl ?_
        refine q_imul rfl rfl (q_tn (z := 40000) rfl ?_)
        refine q_iload rfl rfl rfl ?_
        refine q_iadd rfl rfl (q_tn (z := 40016) rfl ?_)
        refine q_aload_n rfl rfl rfl ?_
        refine q_getf rfl rfl (by decide) rfl rfl ?_
        refine q_iload rfl rfl rfl ?_
        refine q_iald rfl rfl (by decide) rfl (by decide) (q_tn (z := 0) rfl ?_)
        refine q_iast rfl rfl (by decide) rfl (by decide) ?_
        refine q_icc6 (z := 17) rfl rfl rfl rfl rfl ?_
        refine q_goto rfl ?_
        refine q_iload rfl rfl rfl ?_
        refine q_bipush rfl rfl ?_
        refine q_icge rfl rfl (fun c338 => absurd c338 (by decide)) (fun c338 => ?_)
        refine q_aload_n rfl rfl rfl ?_
        refine q_getf rfl rfl (by decide) rfl rfl ?_
        refine q_bipush rfl rfl ?_
        refine q_iload rfl rfl rfl ?_
        refine q_imul rfl rfl (q_tn (z := 40000) rfl ?_)
        refine q_iload rfl rfl rfl ?_
        refine q_iadd rfl rfl (q_tn (z := 40017) rfl ?_)
        refine q_aload_n rfl rfl rfl ?_
        refine q_getf rfl rfl (by decide) rfl rfl ?_
        refine q_iload rfl rfl rfl ?_
        refine q_iald rfl rfl (by decide) rfl (by decide) (q_tn (z := 0) rfl ?_)
        refine q_iast rfl rfl (by decide) rfl (by decide) ?_
        refine q_icc6 (z := 18) rfl rfl rfl rfl rfl ?_
        refine q_goto rfl ?_
        refine q_iload rfl rfl rfl ?_
        refine q_bipush rfl rfl ?_
        refine q_icge rfl rfl (fun c339 => absurd c339 (by decide)) (fun c339 => ?_)
        refine q_aload_n rfl rfl rfl ?_
        refine q_getf rfl rfl (by decide) rfl rfl ?_
        refine q_bipush rfl rfl ?_
        refine q_iload rfl rfl rfl ?_
        refine q_imul rfl rfl (q_tn (z := 40000) rfl ?_)
        refine q_iload rfl rfl rfl ?_
        refine q_iadd rfl rfl (q_tn (z := 40018) rfl ?_)
        refine q_aload_n rfl rfl rfl ?_
        refine q_getf rfl rfl (by decide) rfl rfl ?_
        refine q_iload rfl rfl rfl ?_
        refine q_iald rfl rfl (by decide) rfl (by decide) (q_tn (z := 0) rfl ?_)
        refine q_iast rfl rfl (by decide) rfl (by decide) ?_
        refine q_icc6 (z := 19) rfl rfl rfl rfl rfl ?_
        refine q_goto rfl ?_
        refine q_iload rfl rfl rfl ?_
        refine q_bipush rfl rfl ?_
        refine q_icge rfl rfl (fun c340 => absurd c340 (by decide)) (fun c340 => ?_)
        refine q_aload_n rfl rfl rfl ?_
        refine q_getf rfl rfl (by decide) rfl rfl ?_
        refine q_bipush rfl rfl ?_
        refine q_iload rfl rfl rfl ?_
        refine q_imul rfl rfl (q_tn (z := 40000) rfl ?_)
        refine q_iload rfl rfl rfl ?_
        refine q_iadd rfl rfl (q_tn (z := 40019) rfl ?_)
        refine q_aload_n rfl rfl rfl ?_
        refine q_getf rfl rfl (by decide) rfl rfl ?_
        refine q_iload rfl rfl rfl ?_
        refine q_iald rfl rfl (by decide) rfl (by decide) (q_tn (z := 0) rfl ?_)
        refine q_iast rfl rfl (by decide) rfl (by decide) ?_
        refine q_icc6 (z := 20) rfl rfl rfl rfl rfl ?_
        refine q_goto rfl ?_
        refine q_iload rfl rfl rfl ?_
        refine q_bipush rfl rfl ?_
        refine q_icge rfl rfl (fun c341 => ?_) (fun c341 => absurd (by decide) c341)
        refine q_aload_n rfl rfl rfl ?_
        refine q_getf rfl rfl (by decide) rfl rfl ?_
        refine q_iload rfl rfl rfl ?_
        refine q_iload_n rfl rfl rfl ?_
        refine q_iast rfl rfl (by decide) rfl (by decide) ?_
        refine q_aload_n rfl rfl rfl ?_
        refine q_getf rfl rfl (by decide) rfl rfl ?_
        refine q_iload rfl rfl rfl ?_
        refine q_iload_n rfl rfl rfl ?_
        refine q_iast rfl rfl (by decide) rfl (by decide) ?_
        refine q_aload_n rfl rfl rfl ?_
        refine q_iload_n rfl rfl rfl ?_
        refine q_nV1 rfl rfl (Or.inl rfl) rfl rfl rfl (by decide) rfl ⟨rfl, rfl⟩ rfl ?_
        change PQ _ _ _ mm_X12_rest 0 [.ref 46, .int 1, pm_un, pm_un] [] _ _ 0 0 _
        refine q_bipush rfl rfl ?_
        refine q_ist2n rfl rfl rfl rfl ?_
        refine q_iconst rfl rfl ?_
        refine q_ist3n rfl rfl rfl rfl ?_
        refine q_iload_n rfl rfl rfl ?_
        refine q_bipush rfl rfl ?_
        refine q_icge rfl rfl (fun c342 => absurd c342 (by decide)) (fun c342 => ?_)
        refine q_bipush rfl rfl ?_
        refine q_iload_n rfl rfl rfl ?_
        refine q_imul rfl rfl (q_tn (z := 527) rfl ?_)
        refine q_aload_n rfl rfl rfl ?_
        refine q_getf rfl rfl (by decide) rfl rfl ?_
        refine q_iload_n rfl rfl rfl ?_
        refine q_iald rfl rfl (by decide) rfl (by decide) (q_tn (z := 10) rfl ?_)
        refine q_iadd rfl rfl (q_tn (z := 537) rfl ?_)
        refine q_ist2n rfl rfl rfl rfl ?_
        refine q_icc3 (z := 1) rfl rfl rfl rfl rfl ?_
        refine q_goto rfl ?_
        refine q_iload_n rfl rfl rfl ?_
        refine q_bipush rfl rfl ?_
        refine q_icge rfl rfl (fun c343 => absurd c343 (by decide)) (fun c343 => ?_)
        refine q_bipush rfl rfl ?_
        refine q_iload_n rfl rfl rfl ?_
        refine q_imul rfl rfl (q_tn (z := 16647) rfl ?_)
        refine q_aload_n rfl rfl rfl ?_
        refine q_getf rfl rfl (by decide) rfl rfl ?_
        refine q_iload_n rfl rfl rfl ?_
        refine q_iald rfl rfl (by decide) rfl (by decide) (q_tn (z := 0) rfl ?_)
        refine q_iadd rfl rfl (q_tn (z := 16647) rfl ?_)
        refine q_ist2n rfl rfl rfl rfl ?_
        refine q_icc3 (z := 2) rfl rfl rfl rfl rfl ?_
        refine q_goto rfl ?_
        refine q_iload_n rfl rfl rfl ?_
        refine q_bipush rfl rfl ?_
        refine q_icge rfl rfl (fun c344 => absurd c344 (by decide)) (fun c344 => ?_)
        refine q_bipush rfl rfl ?_
        refine q_iload_n rfl rfl rfl ?_
        refine q_imul rfl rfl (q_tn (z := 516057) rfl ?_)
        refine q_aload_n rfl rfl rfl ?_
        refine q_getf rfl rfl (by decide) rfl rfl ?_
        refine q_iload_n rfl rfl rfl ?_
        refine q_iald rfl rfl (by decide) rfl (by decide) (q_tn (z := 0) rfl ?_)
        refine q_iadd rfl rfl (q_tn (z := 516057) rfl ?_)
        refine q_ist2n rfl rfl rfl rfl ?_
        refine q_icc3 (z := 3) rfl rfl rfl rfl rfl ?_
        refine q_goto rfl ?_
        refine q_iload_n rfl rfl rfl ?_
        refine q_bipush rfl rfl ?_
        refine q_icge rfl rfl (fun c345 => absurd c345 (by decide)) (fun c345 => ?_)
        refine q_bipush rfl rfl ?_
        refine q_iload_n rfl rfl rfl ?_
        refine q_imul rfl rfl (q_tn (z := 15997767) rfl ?_)
        refine q_aload_n rfl rfl rfl ?_
        refine q_getf rfl rfl (by decide) rfl rfl ?_
        refine q_iload_n rfl rfl rfl ?_
        refine q_iald rfl rfl (by decide) rfl (by decide) (q_tn (z := 0) rfl ?_)
        refine q_iadd rfl rfl (q_tn (z := 15997767) rfl ?_)
        refine q_ist2n rfl rfl rfl rfl ?_
        refine q_icc3 (z := 4) rfl rfl rfl rfl rfl ?_
        refine q_goto rfl ?_
        refine q_iload_n rfl rfl rfl ?_
        refine q_bipush rfl rfl ?_
        refine q_icge rfl rfl (fun c346 => absurd c346 (by decide)) (fun c346 => ?_)
        refine q_bipush rfl rfl ?_
        refine q_iload_n rfl rfl rfl ?_
        refine q_imul rfl rfl (q_tn (z := 495930777) rfl ?_)
        refine q_aload_n rfl rfl rfl ?_
        refine q_getf rfl rfl (by decide) rfl rfl ?_
        refine q_iload_n rfl rfl rfl ?_
        refine q_iald rfl rfl (by decide) rfl (by decide) (q_tn (z := 0) rfl ?_)
        refine q_iadd rfl rfl (q_tn (z := 495930777) rfl ?_)
        refine q_ist2n rfl rfl rfl rfl ?_
        refine q_icc3 (z := 5) rfl rfl rfl rfl rfl ?_
        refine q_goto rfl ?_
        refine q_iload_n rfl rfl rfl ?_
        refine q_bipush rfl rfl ?_
        refine q_icge rfl rfl (fun c347 => absurd c347 (by decide)) (fun c347 => ?_)
        refine q_bipush rfl rfl ?_
        refine q_iload_n rfl rfl rfl ?_
        refine q_imul rfl rfl (q_tn (z := (-1806015097)) rfl ?_)
        refine q_aload_n rfl rfl rfl ?_
        refine q_getf rfl rfl (by decide) rfl rfl ?_
        refine q_iload_n rfl rfl rfl ?_
        refine q_iald rfl rfl (by decide) rfl (by decide) (q_tn (z := 0) rfl ?_)
        refine q_iadd rfl rfl (q_tn (z := (-1806015097)) rfl ?_)
        refine q_ist2n rfl rfl rfl rfl ?_
        refine q_icc3 (z := 6) rfl rfl rfl rfl rfl ?_
        refine q_goto rfl ?_
        refine q_iload_n rfl rfl rfl ?_
        refine q_bipush rfl rfl ?_
        refine q_icge rfl rfl (fun c348 => absurd c348 (by decide)) (fun c348 => ?_)
        refine q_bipush rfl rfl ?_
        refine q_iload_n rfl rfl rfl ?_
        refine q_imul rfl rfl (q_tn (z := (-151893159)) rfl ?_)
        refine q_aload_n rfl rfl rfl ?_
        refine q_getf rfl rfl (by decide) rfl rfl ?_
        refine q_iload_n rfl rfl rfl ?_
        refine q_iald rfl rfl (by decide) rfl (by decide) (q_tn (z := 0) rfl ?_)
        refine q_iadd rfl rfl (q_tn (z := (-151893159)) rfl ?_)
        refine q_ist2n rfl rfl rfl rfl ?_
        refine q_icc3 (z := 7) rfl rfl rfl rfl rfl ?_
        refine q_goto rfl ?_
        refine q_iload_n rfl rfl rfl ?_
        refine q_bipush rfl rfl ?_
        refine q_icge rfl rfl (fun c349 => absurd c349 (by decide)) (fun c349 => ?_)
        refine q_bipush rfl rfl ?_
        refine q_iload_n rfl rfl rfl ?_
        refine q_imul rfl rfl (q_tn (z := (-413720633)) rfl ?_)
        refine q_aload_n rfl rfl rfl ?_
        refine q_getf rfl rfl (by decide) rfl rfl ?_
        refine q_iload_n rfl rfl rfl ?_
        refine q_iald rfl rfl (by decide) rfl (by decide) (q_tn (z := 0) rfl ?_)
        refine q_iadd rfl rfl (q_tn (z := (-413720633)) rfl ?_)
        refine q_ist2n rfl rfl rfl rfl ?_
        refine q_icc3 (z := 8) rfl rfl rfl rfl rfl ?_
        refine q_goto rfl ?_
        refine q_iload_n rfl rfl rfl ?_
        refine q_bipush rfl rfl ?_
        refine q_icge rfl rfl (fun c350 => absurd c350 (by decide)) (fun c350 => ?_)
        refine q_bipush rfl rfl ?_
        refine q_iload_n rfl rfl rfl ?_
        refine q_imul rfl rfl (q_tn (z := 59562265) rfl ?_)
        refine q_aload_n rfl rfl rfl ?_
        refine q_getf rfl rfl (by decide) rfl rfl ?_
        refine q_iload_n rfl rfl rfl ?_
        refine q_iald rfl rfl (by decide) rfl (by decide) (q_tn (z := 0) rfl ?_)
        refine q_iadd rfl rfl (q_tn (z := 59562265) rfl ?_)
        refine q_ist2n rfl rfl rfl rfl ?_
        refine q_icc3 (z := 9) rfl rfl rfl rfl rfl ?_
        refine q_goto rfl ?_
        refine q_iload_n rfl rfl rfl ?_
        refine q_bipush rfl rfl ?_
        refine q_icge rfl rfl (fun c351 => absurd c351 (by decide)) (fun c351 => ?_)
        refine q_bipush rfl rfl ?_
        refine q_iload_n rfl rfl rfl ?_
        refine q_imul rfl rfl (q_tn (z := 1846430215) rfl ?_)
        refine q_aload_n rfl rfl rfl ?_
        refine q_getf rfl rfl (by decide) rfl rfl ?_
        refine q_iload_n rfl rfl rfl ?_
        refine q_iald rfl rfl (by decide) rfl (by decide) (q_tn (z := 0) rfl ?_)
        refine q_iadd rfl rfl (q_tn (z := 1846430215) rfl ?_)
        refine q_ist2n rfl rfl rfl rfl ?_
        refine q_icc3 (z := 10) rfl rfl rfl rfl rfl ?_
        refine q_goto rfl ?_
        refine q_iload_n rfl rfl rfl ?_
        refine q_bipush rfl rfl ?_
        refine q_icge rfl rfl (fun c352 => absurd c352 (by decide)) (fun c352 => ?_)
        refine q_bipush rfl rfl ?_
        refine q_iload_n rfl rfl rfl ?_
        refine q_imul rfl rfl (q_tn (z := 1404761817) rfl ?_)
        refine q_aload_n rfl rfl rfl ?_
        refine q_getf rfl rfl (by decide) rfl rfl ?_
        refine q_iload_n rfl rfl rfl ?_
        refine q_iald rfl rfl (by decide) rfl (by decide) (q_tn (z := 0) rfl ?_)
        refine q_iadd rfl rfl (q_tn (z := 1404761817) rfl ?_)
        refine q_ist2n rfl rfl rfl rfl ?_
        refine q_icc3 (z := 11) rfl rfl rfl rfl rfl ?_
        refine q_goto rfl ?_
        refine q_iload_n rfl rfl rfl ?_
        refine q_bipush rfl rfl ?_
        refine q_icge rfl rfl (fun c353 => absurd c353 (by decide)) (fun c353 => ?_)
        refine q_bipush rfl rfl ?_
        refine q_iload_n rfl rfl rfl ?_
        refine q_imul rfl rfl (q_tn (z := 597943367) rfl ?_)
        refine q_aload_n rfl rfl rfl ?_
        refine q_getf rfl rfl (by decide) rfl rfl ?_
        refine q_iload_n rfl rfl rfl ?_
        refine q_iald rfl rfl (by decide) rfl (by decide) (q_tn (z := 0) rfl ?_)
        refine q_iadd rfl rfl (q_tn (z := 597943367) rfl ?_)
        refine q_ist2n rfl rfl rfl rfl ?_
        refine q_icc3 (z := 12) rfl rfl rfl rfl rfl ?_
        refine q_goto rfl ?_
        refine q_iload_n rfl rfl rfl ?_
        refine q_bipush rfl rfl ?_
        refine q_icge rfl rfl (fun c354 => absurd c354 (by decide)) (fun c354 => ?_)
        refine q_bipush rfl rfl ?_
        refine q_iload_n rfl rfl rfl ?_
        refine q_imul rfl rfl (q_tn (z := 1356375193) rfl ?_)
        refine q_aload_n rfl rfl rfl ?_
        refine q_getf rfl rfl (by decide) rfl rfl ?_
        refine q_iload_n rfl rfl rfl ?_
        refine q_iald rfl rfl (by decide) rfl (by decide) (q_tn (z := 0) rfl ?_)
        refine q_iadd rfl rfl (q_tn (z := 1356375193) rfl ?_)
        refine q_ist2n rfl rfl rfl rfl ?_
        refine q_icc3 (z := 13) rfl rfl rfl rfl rfl ?_
        refine q_goto rfl ?_
        refine q_iload_n rfl rfl rfl ?_
        refine q_bipush rfl rfl ?_
        refine q_icge rfl rfl (fun c355 => absurd c355 (by decide)) (fun c355 => ?_)
        refine q_bipush rfl rfl ?_
        refine q_iload_n rfl rfl rfl ?_
        refine q_imul rfl rfl (q_tn (z := (-902041977)) rfl ?_)
        refine q_aload_n rfl rfl rfl ?_
        refine q_getf rfl rfl (by decide) rfl rfl ?_
        refine q_iload_n rfl rfl rfl ?_
        refine q_iald rfl rfl (by decide) rfl (by decide) (q_tn (z := 0) rfl ?_)
        refine q_iadd rfl rfl (q_tn (z := (-902041977)) rfl ?_)
        refine q_ist2n rfl rfl rfl rfl ?_
        refine q_icc3 (z := 14) rfl rfl rfl rfl rfl ?_
        refine q_goto rfl ?_
        refine q_iload_n rfl rfl rfl ?_
        refine q_bipush rfl rfl ?_
        refine q_icge rfl rfl (fun c356 => absurd c356 (by decide)) (fun c356 => ?_)
        refine q_bipush rfl rfl ?_
        refine q_iload_n rfl rfl rfl ?_
        refine q_imul rfl rfl (q_tn (z := 2101469785) rfl ?_)
        refine q_aload_n rfl rfl rfl ?_
        refine q_getf rfl rfl (by decide) rfl rfl ?_
        refine q_iload_n rfl rfl rfl ?_
        refine q_iald rfl rfl (by decide) rfl (by decide) (q_tn (z := 0) rfl ?_)
        refine q_iadd rfl rfl (q_tn (z := 2101469785) rfl ?_)
        refine q_ist2n rfl rfl rfl rfl ?_
        refine q_icc3 (z := 15) rfl rfl rfl rfl rfl ?_
        refine q_goto rfl ?_
        refine q_iload_n rfl rfl rfl ?_
        refine q_bipush rfl rfl ?_
        refine q_icge rfl rfl (fun c357 => absurd c357 (by decide)) (fun c357 => ?_)
        refine q_bipush rfl rfl ?_
        refine q_iload_n rfl rfl rfl ?_
        refine q_imul rfl rfl (q_tn (z := 721053895) rfl ?_)
        refine q_aload_n rfl rfl rfl ?_
        refine q_getf rfl rfl (by decide) rfl rfl ?_
        refine q_iload_n rfl rfl rfl ?_
        refine q_iald rfl rfl (by decide) rfl (by decide) (q_tn (z := 0) rfl ?_)
        refine q_iadd rfl rfl (q_tn (z := 721053895) rfl ?_)
        refine q_ist2n rfl rfl rfl rfl ?_
        refine q_icc3 (z := 16) rfl rfl rfl rfl rfl ?_
        refine q_goto rfl ?_
        refine q_iload_n rfl rfl rfl ?_
        refine q_bipush rfl rfl ?_
        refine q_icge rfl rfl (fun c358 => absurd c358 (by decide)) (fun c358 => ?_)
        refine q_bipush rfl rfl ?_
        refine q_iload_n rfl rfl rfl ?_
        refine q_imul rfl rfl (q_tn (z := 877834265) rfl ?_)
        refine q_aload_n rfl rfl rfl ?_
        refine q_getf rfl rfl (by decide) rfl rfl ?_
        refine q_iload_n rfl rfl rfl ?_
        refine q_iald rfl rfl (by decide) rfl (by decide) (q_tn (z := 0) rfl ?_)
        refine q_iadd rfl rfl (q_tn (z := 877834265) rfl ?_)
        refine q_ist2n rfl rfl rfl rfl ?_
        refine q_icc3 (z := 17) rfl rfl rfl rfl rfl ?_
        refine q_goto rfl ?_
        refine q_iload_n rfl rfl rfl ?_
        refine q_bipush rfl rfl ?_
        refine q_icge rfl rfl (fun c359 => absurd c359 (by decide)) (fun c359 => ?_)
        refine q_bipush rfl rfl ?_
        refine q_iload_n rfl rfl rfl ?_
        refine q_imul rfl rfl (q_tn (z := 1443058439) rfl ?_)
        refine q_aload_n rfl rfl rfl ?_
        refine q_getf rfl rfl (by decide) rfl rfl ?_
        refine q_iload_n rfl rfl rfl ?_
        refine q_iald rfl rfl (by decide) rfl (by decide) (q_tn (z := 0) rfl ?_)
        refine q_iadd rfl rfl (q_tn (z := 1443058439) rfl ?_)
        refine q_ist2n rfl rfl rfl rfl ?_
        refine q_icc3 (z := 18) rfl rfl rfl rfl rfl ?_
        refine q_goto rfl ?_
        refine q_iload_n rfl rfl rfl ?_
        refine q_bipush rfl rfl ?_
        refine q_icge rfl rfl (fun c360 => absurd c360 (by decide)) (fun c360 => ?_)
        refine q_bipush rfl rfl ?_
        refine q_iload_n rfl rfl rfl ?_
        refine q_imul rfl rfl (q_tn (z := 1785138649) rfl ?_)
        refine q_aload_n rfl rfl rfl ?_
        refine q_getf rfl rfl (by decide) rfl rfl ?_
        refine q_iload_n rfl rfl rfl ?_
        refine q_iald rfl rfl (by decide) rfl (by decide) (q_tn (z := 0) rfl ?_)
        refine q_iadd rfl rfl (q_tn (z := 1785138649) rfl ?_)
        refine q_ist2n rfl rfl rfl rfl ?_
        refine q_icc3 (z := 19) rfl rfl rfl rfl rfl ?_
        refine q_goto rfl ?_
        refine q_iload_n rfl rfl rfl ?_
        refine q_bipush rfl rfl ?_
        refine q_icge rfl rfl (fun c361 => absurd c361 (by decide)) (fun c361 => ?_)
        refine q_bipush rfl rfl ?_
        refine q_iload_n rfl rfl rfl ?_
        refine q_imul rfl rfl (q_tn (z := (-495276729)) rfl ?_)
        refine q_aload_n rfl rfl rfl ?_
        refine q_getf rfl rfl (by decide) rfl rfl ?_
        refine q_iload_n rfl rfl rfl ?_
        refine q_iald rfl rfl (by decide) rfl (by decide) (q_tn (z := 0) rfl ?_)
        refine q_iadd rfl rfl (q_tn (z := (-495276729)) rfl ?_)
        refine q_ist2n rfl rfl rfl rfl ?_
        refine q_icc3 (z := 20) rfl rfl rfl rfl rfl ?_
        refine q_goto rfl ?_
        refine q_iload_n rfl rfl rfl ?_
        refine q_bipush rfl rfl ?_
        refine q_icge rfl rfl (fun c362 => ?_) (fun c362 => absurd (by decide) c362)
        refine q_sipush rfl rfl ?_
        refine q_iload_n rfl rfl rfl ?_
        refine q_imul rfl rfl (q_tn (z := 8192) rfl ?_)
        refine q_iload_n rfl rfl rfl ?_
        refine q_iload_n rfl rfl rfl ?_
        refine q_bipush rfl rfl ?_
        refine q_iushr rfl rfl (q_tn (z := 463829) rfl ?_)
        refine q_ixor rfl rfl (q_tn (z := (-495075694)) rfl ?_)
        refine q_sipush rfl rfl ?_
        refine q_irem rfl rfl (by decide) (q_tn (z := (-366)) rfl ?_)
        refine q_iload_n rfl rfl rfl ?_
        refine q_iload_n rfl rfl rfl ?_
        refine q_bipush rfl rfl ?_
        refine q_iushr rfl rfl (q_tn (z := 463829) rfl ?_)
        refine q_ixor rfl rfl (q_tn (z := (-495075694)) rfl ?_)
        refine q_sipush rfl rfl ?_
        refine q_irem rfl rfl (by decide) (q_tn (z := (-366)) rfl ?_)
        refine q_ifge rfl rfl (fun c363 => absurd c363 (by decide)) (fun c363 => ?_)
        refine q_iconst rfl rfl ?_
        refine q_goto rfl ?_
        refine q_imul rfl rfl (q_tn (z := 366) rfl ?_)
        refine q_iadd rfl rfl (q_tn (z := 8558) rfl ?_)
        refine q_iret rfl rfl trivial ?_
        refine ⟨_, rfl, ?_⟩
        refine q_ist6 rfl rfl rfl rfl ?_
        refine q_aload_n rfl rfl rfl ?_
        refine q_getf rfl rfl (by decide) rfl rfl ?_
        refine q_iload rfl rfl rfl ?_
        refine q_aload_n rfl rfl rfl ?_
        refine q_getf rfl rfl (by decide) rfl rfl ?_
        refine q_iload rfl rfl rfl ?_
        refine q_iald rfl rfl (by decide) rfl (by decide) (q_tn (z := (-1)) rfl ?_)
        refine q_iast rfl rfl (by decide) rfl (by decide) ?_
        refine q_aload_n rfl rfl rfl ?_
        refine q_getf rfl rfl (by decide) rfl rfl ?_
        refine q_iload rfl rfl rfl ?_
        refine q_iload rfl rfl rfl ?_
        refine q_iast rfl rfl (by decide) rfl (by decide) ?_
        refine q_aload_n rfl rfl rfl ?_
        refine q_getf rfl rfl (by decide) rfl rfl ?_
        refine q_iload_n rfl rfl rfl ?_
        refine q_dup2 rfl rfl ?_
        refine q_iald rfl rfl (by decide) rfl (by decide) (q_tn (z := 0) rfl ?_)
        refine q_iconst rfl rfl ?_
        refine q_iadd rfl rfl (q_tn (z := 1) rfl ?_)
        refine q_iast rfl rfl (by decide) rfl (by decide) ?_
        refine q_iload rfl rfl rfl ?_
        refine q_iret rfl rfl trivial ?_
        refine ⟨_, rfl, ?_⟩
        refine q_ist3n rfl rfl rfl rfl ?_
        refine q_iconst rfl rfl ?_
        refine q_ist4 rfl rfl rfl rfl ?_
        refine q_iload rfl rfl rfl ?_
        refine q_aload_n rfl rfl rfl ?_
        refine q_getf rfl rfl (by decide) rfl rfl ?_
        refine q_iload_n rfl rfl rfl ?_
        refine q_iald rfl rfl (by decide) rfl (by decide) (q_tn (z := 1) rfl ?_)
        refine q_icge rfl rfl (fun c364 => absurd c364 (by decide)) (fun c364 => ?_)
        refine q_iconst rfl rfl ?_
        refine q_ist5 rfl rfl rfl rfl ?_
        refine q_iload rfl rfl rfl ?_
        refine q_iconst rfl rfl ?_
        refine q_icge rfl rfl (fun c365 => absurd c365 (by decide)) (fun c365 => ?_)
        refine q_iconst rfl rfl ?_
        refine q_sipush rfl rfl ?_
        refine q_iload_n rfl rfl rfl ?_
        refine q_imul rfl rfl (q_tn (z := 2000) rfl ?_)
        refine q_iload rfl rfl rfl ?_
        refine q_iadd rfl rfl (q_tn (z := 2000) rfl ?_)
        refine q_imul rfl rfl (q_tn (z := 6000) rfl ?_)
        refine q_iload rfl rfl rfl ?_
        refine q_iadd rfl rfl (q_tn (z := 6000) rfl ?_)
        refine q_ist6 rfl rfl rfl rfl ?_
        refine q_aload_n rfl rfl rfl ?_
        refine q_getf rfl rfl (by decide) rfl rfl ?_
        refine q_iload rfl rfl rfl ?_
        as_aux_lemma =>
          refine q_iconst rfl rfl ?_
          refine q_iast rfl rfl (by decide) rfl (by decide) ?_
          refine q_aload_n rfl rfl rfl ?_
          refine q_iload_n rfl rfl rfl ?_
          refine q_iload rfl rfl rfl ?_
          refine q_cV2v rfl rfl (Or.inl rfl) rfl rfl rfl (by decide) rfl ⟨rfl, rfl⟩ rfl (fun K' hK' => l_sa (R := 1) (by decide) rfl (by decide) rfl rfl rfl rfl rfl hK') ?_
          refine q_iload rfl rfl rfl ?_
          refine q_aload_n rfl rfl rfl ?_
          refine q_getf rfl rfl (by decide) rfl rfl ?_
          refine q_icge rfl rfl (fun c366 => absurd c366 (by decide)) (fun c366 => ?_)
          refine q_aload_n rfl rfl rfl ?_
          refine q_iload rfl rfl rfl ?_
          refine q_iload_n rfl rfl rfl ?_
          refine q_nV2 rfl rfl (Or.inl rfl) rfl rfl rfl (by decide) rfl ⟨rfl, rfl⟩ rfl ?_
          change PQ _ _ _ mm_X12_maySteps 0 [.ref 46, .int 0, .int 2, pm_un, pm_un, pm_un] [] _ _ 0 0 _
          refine q_aload_n rfl rfl rfl ?_
          refine q_iload_n rfl rfl rfl ?_
          refine q_iload_n rfl rfl rfl ?_
          refine q_nV2 rfl rfl (Or.inl rfl) rfl rfl rfl (by decide) rfl ⟨rfl, rfl⟩ rfl ?_
          change PQ _ _ _ mm_X12_canStep 0 [.ref 46, .int 0, .int 2, pm_un] [] _ _ 0 0 _
          refine q_aload_n rfl rfl rfl ?_
          refine q_iload_n rfl rfl rfl ?_
          refine q_nV1 rfl rfl (Or.inl rfl) rfl rfl rfl (by decide) rfl ⟨rfl, rfl⟩ rfl ?_
          change PQ _ _ _ mm_X12_isOver 0 [.ref 46, .int 0] [] _ _ 0 0 _
          refine q_aload_n rfl rfl rfl ?_
          refine q_getf rfl rfl (by decide) rfl rfl ?_
          refine q_iconst rfl rfl ?_
          refine q_iload_n rfl rfl rfl ?_
          refine q_imul rfl rfl (q_tn (z := 0) rfl ?_)
          refine q_iald rfl rfl (by decide) rfl (by decide) (q_tn (z := 10) rfl ?_)
          refine q_bipush rfl rfl ?_
          refine q_iclt rfl rfl (fun c367 => absurd c367 (by decide)) (fun c367 => ?_)
          refine q_iconst rfl rfl ?_
          refine q_goto rfl ?_
          refine q_iret rfl rfl rfl ?_
          refine ⟨_, rfl, ?_⟩
          refine q_ifeq rfl rfl (fun c368 => absurd c368 (by decide)) (fun c368 => ?_)
          refine q_iconst rfl rfl ?_
          refine q_iret rfl rfl rfl ?_
          refine ⟨_, rfl, ?_⟩
          refine q_ifne rfl rfl (fun c369 => ?_) (fun c369 => absurd (by decide) c369)
          refine q_iconst rfl rfl ?_
          refine q_iret rfl rfl rfl ?_
          refine ⟨_, rfl, ?_⟩
          refine q_ifne rfl rfl (fun c370 => ?_) (fun c370 => absurd (by decide) c370)
          refine q_goto rfl ?_
          refine q_icc5 (z := 1) rfl rfl rfl rfl rfl ?_
          refine q_goto rfl ?_
          refine q_iload rfl rfl rfl ?_
          refine q_iconst rfl rfl ?_
          refine q_icge rfl rfl (fun c371 => absurd c371 (by decide)) (fun c371 => ?_)
          refine q_iconst rfl rfl ?_
          refine q_sipush rfl rfl ?_
          refine q_iload_n rfl rfl rfl ?_
          refine q_imul rfl rfl (q_tn (z := 2000) rfl ?_)
          refine q_iload rfl rfl rfl ?_
          refine q_iadd rfl rfl (q_tn (z := 2000) rfl ?_)
          refine q_imul rfl rfl (q_tn (z := 6000) rfl ?_)
          refine q_iload rfl rfl rfl ?_
          refine q_iadd rfl rfl (q_tn (z := 6001) rfl ?_)
          refine q_ist6 rfl rfl rfl rfl ?_
          refine q_aload_n rfl rfl rfl ?_
          refine q_getf rfl rfl (by decide) rfl rfl ?_
          refine q_iload rfl rfl rfl ?_
          refine q_iconst rfl rfl ?_
          refine q_iast rfl rfl (by decide) rfl (by decide) ?_
          refine q_aload_n rfl rfl rfl ?_
          refine q_iload_n rfl rfl rfl ?_
          refine q_iload rfl rfl rfl ?_
          refine q_cV2v rfl rfl (Or.inl rfl) rfl rfl rfl (by decide) rfl ⟨rfl, rfl⟩ rfl (fun K' hK' => l_sa (R := 1) (by decide) rfl (by decide) rfl rfl rfl rfl rfl hK') ?_
          refine q_iload rfl rfl rfl ?_
          refine q_aload_n rfl rfl rfl ?_
          refine q_getf rfl rfl (by decide) rfl rfl ?_
          refine q_icge rfl rfl (fun c372 => ?_) (fun c372 => absurd (by decide) c372)
          refine q_icc5 (z := 2) rfl rfl rfl rfl rfl ?_
          refine q_goto rfl ?_
          refine q_iload rfl rfl rfl ?_
          refine q_iconst rfl rfl ?_
          refine q_icge rfl rfl (fun c373 => absurd c373 (by decide)) (fun c373 => ?_)
          refine q_iconst rfl rfl ?_
          refine q_sipush rfl rfl ?_
          refine q_iload_n rfl rfl rfl ?_
          refine q_imul rfl rfl (q_tn (z := 2000) rfl ?_)
          refine q_iload rfl rfl rfl ?_
          refine q_iadd rfl rfl (q_tn (z := 2000) rfl ?_)
          refine q_imul rfl rfl (q_tn (z := 6000) rfl ?_)
          refine q_iload rfl rfl rfl ?_
          refine q_iadd rfl rfl (q_tn (z := 6002) rfl ?_)
          refine q_ist6 rfl rfl rfl rfl ?_
          refine q_aload_n rfl rfl rfl ?_
          refine q_getf rfl rfl (by decide) rfl rfl ?_
          refine q_iload rfl rfl rfl ?_
          refine q_iconst rfl rfl ?_
          refine q_iast rfl rfl (by decide) rfl (by decide) ?_
          refine q_aload_n rfl rfl rfl ?_
          refine q_iload_n rfl rfl rfl ?_
          refine q_iload rfl rfl rfl ?_
          refine q_cV2v rfl rfl (Or.inl rfl) rfl rfl rfl (by decide) rfl ⟨rfl, rfl⟩ rfl (fun K' hK' => l_sa (R := 1) (by decide) rfl (by decide) rfl rfl rfl rfl rfl hK') ?_
          refine q_iload rfl rfl rfl ?_
          refine q_aload_n rfl rfl rfl ?_
          refine q_getf rfl rfl (by decide) rfl rfl ?_
          refine q_icge rfl rfl (fun c374 => ?_) (fun c374 => absurd (by decide) c374)
          refine q_icc5 (z := 3) rfl rfl rfl rfl rfl ?_
          refine q_goto rfl ?_
          refine q_iload rfl rfl rfl ?_
          refine q_iconst rfl rfl ?_
          refine q_icge rfl rfl (fun c375 => ?_) (fun c375 => absurd (by decide) c375)
          refine q_icc4 (z := 1) rfl rfl rfl rfl rfl ?_
          refine q_goto rfl ?_
          refine q_iload rfl rfl rfl ?_
          refine q_aload_n rfl rfl rfl ?_
          refine q_getf rfl rfl (by decide) rfl rfl ?_
          refine q_iload_n rfl rfl rfl ?_
          refine q_iald rfl rfl (by decide) rfl (by decide) (q_tn (z := 1) rfl ?_)
          refine q_icge rfl rfl (fun c376 => ?_) (fun c376 => absurd (by decide) c376)
          refine q_iconst rfl rfl ?_
          refine q_iret rfl rfl rfl ?_
          refine ⟨_, rfl, ?_⟩
          refine q_ifeq rfl rfl (fun c377 => absurd c377 (by decide)) (fun c377 => ?_)
          refine q_iconst rfl rfl ?_
          refine q_goto rfl ?_
          refine q_iast rfl rfl (by decide) rfl (by decide) ?_
          refine q_iload_n rfl rfl rfl ?_
          refine q_ifne rfl rfl (fun c378 => absurd c378 (by decide)) (fun c378 => ?_)
          refine q_aload_n rfl rfl rfl ?_
          refine q_getf rfl rfl (by decide) rfl rfl ?_
          refine q_iload_n rfl rfl rfl ?_
          refine q_aload_n rfl rfl rfl ?_
          refine q_getf rfl rfl (by decide) rfl rfl ?_
          refine q_iload_n rfl rfl rfl ?_
          refine q_iald rfl rfl (by decide) rfl (by decide) (q_tn (z := 1) rfl ?_)
          refine q_iast rfl rfl (by decide) rfl (by decide) ?_
          refine q_iconst rfl rfl ?_
          refine q_ist3n rfl rfl rfl rfl ?_
          refine q_iload_n rfl rfl rfl ?_
          refine q_iconst rfl rfl ?_
          refine q_icge rfl rfl (fun c379 => absurd c379 (by decide)) (fun c379 => ?_)
          refine q_aload_n rfl rfl rfl ?_
          refine q_getf rfl rfl (by decide) rfl rfl ?_
          refine q_iconst rfl rfl ?_
          refine q_iload_n rfl rfl rfl ?_
          refine q_imul rfl rfl (q_tn (z := 8) rfl ?_)
          refine q_iload_n rfl rfl rfl ?_
          refine q_iadd rfl rfl (q_tn (z := 8) rfl ?_)
          refine q_iconst rfl rfl ?_
          refine q_iast rfl rfl (by decide) rfl (by decide) ?_
          refine q_icc3 (z := 1) rfl rfl rfl rfl rfl ?_
          refine q_goto rfl ?_
          refine q_iload_n rfl rfl rfl ?_
          refine q_iconst rfl rfl ?_
          refine q_icge rfl rfl (fun c380 => absurd c380 (by decide)) (fun c380 => ?_)
          refine q_aload_n rfl rfl rfl ?_
          refine q_getf rfl rfl (by decide) rfl rfl ?_
          refine q_iconst rfl rfl ?_
          refine q_iload_n rfl rfl rfl ?_
          refine q_imul rfl rfl (q_tn (z := 8) rfl ?_)
          refine q_iload_n rfl rfl rfl ?_
          refine q_iadd rfl rfl (q_tn (z := 9) rfl ?_)
          refine q_iconst rfl rfl ?_
          refine q_iast rfl rfl (by decide) rfl (by decide) ?_
          refine q_icc3 (z := 2) rfl rfl rfl rfl rfl ?_
          refine q_goto rfl ?_
          refine q_iload_n rfl rfl rfl ?_
          refine q_iconst rfl rfl ?_
          refine q_icge rfl rfl (fun c381 => absurd c381 (by decide)) (fun c381 => ?_)
          refine q_aload_n rfl rfl rfl ?_
          refine q_getf rfl rfl (by decide) rfl rfl ?_
          refine q_iconst rfl rfl ?_
          refine q_iload_n rfl rfl rfl ?_
          refine q_imul rfl rfl (q_tn (z := 8) rfl ?_)
          refine q_iload_n rfl rfl rfl ?_
          refine q_iadd rfl rfl (q_tn (z := 10) rfl ?_)
          refine q_iconst rfl rfl ?_
          refine q_iast rfl rfl (by decide) rfl (by decide) ?_
          refine q_icc3 (z := 3) rfl rfl rfl rfl rfl ?_
          refine q_goto rfl ?_
          refine q_iload_n rfl rfl rfl ?_
          refine q_iconst rfl rfl ?_
          refine q_icge rfl rfl (fun c382 => absurd c382 (by decide)) (fun c382 => ?_)
          refine q_aload_n rfl rfl rfl ?_
          refine q_getf rfl rfl (by decide) rfl rfl ?_
          refine q_iconst rfl rfl ?_
          refine q_iload_n rfl rfl rfl ?_
          refine q_imul rfl rfl (q_tn (z := 8) rfl ?_)
          refine q_iload_n rfl rfl rfl ?_
          refine q_iadd rfl rfl (q_tn (z := 11) rfl ?_)
          refine q_iconst rfl rfl ?_
          refine q_iast rfl rfl (by decide) rfl (by decide) ?_
          refine q_icc3 (z := 4) rfl rfl rfl rfl rfl ?_
          refine q_goto rfl ?_
          refine q_iload_n rfl rfl rfl ?_
          refine q_iconst rfl rfl ?_
          refine q_icge rfl rfl (fun c383 => ?_) (fun c383 => absurd (by decide) c383)
          refine q_iconst rfl rfl ?_
          refine q_ist3n rfl rfl rfl rfl ?_
          refine q_iload_n rfl rfl rfl ?_
          refine q_aload_n rfl rfl rfl ?_
          refine q_getf rfl rfl (by decide) rfl rfl ?_
          refine q_iload_n rfl rfl rfl ?_
          refine q_iald rfl rfl (by decide) rfl (by decide) (q_tn (z := 1) rfl ?_)
          refine q_icge rfl rfl (fun c384 => absurd c384 (by decide)) (fun c384 => ?_)
          refine q_aload_n rfl rfl rfl ?_
          refine q_iload_n rfl rfl rfl ?_
          refine q_iload_n rfl rfl rfl ?_
          refine q_cV2v rfl rfl (Or.inl rfl) rfl rfl rfl (by decide) rfl ⟨rfl, rfl⟩ rfl (fun K' hK' => l_sa (R := 1) (by decide) rfl (by decide) rfl rfl rfl rfl rfl hK') ?_
          refine q_aload_n rfl rfl rfl ?_
          refine q_nV0 rfl rfl (Or.inl rfl) rfl rfl rfl (by decide) rfl ⟨rfl, rfl⟩ rfl ?_
          change PQ _ _ _ mm_X12_isEnd 0 [.ref 46, pm_un, pm_un] [] _ _ 0 0 _
          refine q_iconst rfl rfl ?_
          refine q_ist1n rfl rfl rfl rfl ?_
          refine q_iconst rfl rfl ?_
          refine q_ist2n rfl rfl rfl rfl ?_
          refine q_iload_n rfl rfl rfl ?_
          refine q_aload_n rfl rfl rfl ?_
          refine q_getf rfl rfl (by decide) rfl rfl ?_
          refine q_icge rfl rfl (fun c385 => absurd c385 (by decide)) (fun c385 => ?_)
          refine q_iload_n rfl rfl rfl ?_
          refine q_ifeq rfl rfl (fun c386 => absurd c386 (by decide)) (fun c386 => ?_)
          refine q_aload_n rfl rfl rfl ?_
          refine q_iload_n rfl rfl rfl ?_
          refine q_nV1 rfl rfl (Or.inl rfl) rfl rfl rfl (by decide) rfl ⟨rfl, rfl⟩ rfl ?_
          change PQ _ _ _ mm_X12_isOver 0 [.ref 46, .int 0] [] _ _ 0 0 _
          refine q_aload_n rfl rfl rfl ?_
          refine q_getf rfl rfl (by decide) rfl rfl ?_
          refine q_iconst rfl rfl ?_
          refine q_iload_n rfl rfl rfl ?_
          refine q_imul rfl rfl (q_tn (z := 0) rfl ?_)
          refine q_iald rfl rfl (by decide) rfl (by decide) (q_tn (z := 10) rfl ?_)
          refine q_bipush rfl rfl ?_
          refine q_iclt rfl rfl (fun c387 => absurd c387 (by decide)) (fun c387 => ?_)
          refine q_iconst rfl rfl ?_
          refine q_goto rfl ?_
          refine q_iret rfl rfl rfl ?_
          refine ⟨_, rfl, ?_⟩
          refine q_ifeq rfl rfl (fun c388 => absurd c388 (by decide)) (fun c388 => ?_)
          refine q_iconst rfl rfl ?_
          refine q_goto rfl ?_
          refine q_ist1n rfl rfl rfl rfl ?_
          refine q_icc2 (z := 1) rfl rfl rfl rfl rfl ?_
          refine q_goto rfl ?_
          refine q_iload_n rfl rfl rfl ?_
          refine q_aload_n rfl rfl rfl ?_
          refine q_getf rfl rfl (by decide) rfl rfl ?_
          refine q_icge rfl rfl (fun c389 => ?_) (fun c389 => absurd (by decide) c389)
          refine q_iload_n rfl rfl rfl ?_
          refine q_iret rfl rfl rfl ?_
          refine ⟨_, rfl, ?_⟩
          refine q_ifne rfl rfl (fun c390 => absurd c390 (by decide)) (fun c390 => ?_)
          refine q_iconst rfl rfl ?_
          refine q_ist4 rfl rfl rfl rfl ?_
          refine q_iload rfl rfl rfl ?_
          refine q_iconst rfl rfl ?_
          refine q_icge rfl rfl (fun c391 => absurd c391 (by decide)) (fun c391 => ?_)
          refine q_aload_n rfl rfl rfl ?_
          refine q_getf rfl rfl (by decide) rfl rfl ?_
          refine q_iconst rfl rfl ?_
          refine q_iload_n rfl rfl rfl ?_
          refine q_imul rfl rfl (q_tn (z := 8) rfl ?_)
          refine q_iload rfl rfl rfl ?_
          refine q_iadd rfl rfl (q_tn (z := 8) rfl ?_)
          refine q_dup2 rfl rfl ?_
          refine q_iald rfl rfl (by decide) rfl (by decide) (q_tn (z := 0) rfl ?_)
          refine q_iconst rfl rfl ?_
          refine q_aload_n rfl rfl rfl ?_
          refine q_getf rfl rfl (by decide) rfl rfl ?_
          refine q_bipush rfl rfl ?_
          refine q_iload rfl rfl rfl ?_
          refine q_iadd rfl rfl (q_tn (z := 12) rfl ?_)
          refine q_iald rfl rfl (by decide) rfl (by decide) (q_tn (z := 0) rfl ?_)
          refine q_ishl rfl rfl (q_tn (z := 1) rfl ?_)
          refine q_ior rfl rfl (q_tn (z := 1) rfl ?_)
          refine q_iast rfl rfl (by decide) rfl (by decide) ?_
          refine q_icc4 (z := 1) rfl rfl rfl rfl rfl ?_
          refine q_goto rfl ?_
          refine q_iload rfl rfl rfl ?_
          refine q_iconst rfl rfl ?_
          refine q_icge rfl rfl (fun c392 => absurd c392 (by decide)) (fun c392 => ?_)
          refine q_aload_n rfl rfl rfl ?_
          refine q_getf rfl rfl (by decide) rfl rfl ?_
          refine q_iconst rfl rfl ?_
          refine q_iload_n rfl rfl rfl ?_
          refine q_imul rfl rfl (q_tn (z := 8) rfl ?_)
          refine q_iload rfl rfl rfl ?_
          refine q_iadd rfl rfl (q_tn (z := 9) rfl ?_)
          refine q_dup2 rfl rfl ?_
          refine q_iald rfl rfl (by decide) rfl (by decide) (q_tn (z := 0) rfl ?_)
          refine q_iconst rfl rfl ?_
          refine q_aload_n rfl rfl rfl ?_
          refine q_getf rfl rfl (by decide) rfl rfl ?_
          refine q_bipush rfl rfl ?_
          refine q_iload rfl rfl rfl ?_
          refine q_iadd rfl rfl (q_tn (z := 13) rfl ?_)
          refine q_iald rfl rfl (by decide) rfl (by decide) (q_tn (z := 0) rfl ?_)
          refine q_ishl rfl rfl (q_tn (z := 1) rfl ?_)
          refine q_ior rfl rfl (q_tn (z := 1) rfl ?_)
          refine q_iast rfl rfl (by decide) rfl (by decide) ?_
          refine q_icc4 (z := 2) rfl rfl rfl rfl rfl ?_
          refine q_goto rfl ?_
          refine q_iload rfl rfl rfl ?_
          refine q_iconst rfl rfl ?_
          refine q_icge rfl rfl (fun c393 => absurd c393 (by decide)) (fun c393 => ?_)
          refine q_aload_n rfl rfl rfl ?_
          refine q_getf rfl rfl (by decide) rfl rfl ?_
          refine q_iconst rfl rfl ?_
          refine q_iload_n rfl rfl rfl ?_
          refine q_imul rfl rfl (q_tn (z := 8) rfl ?_)
          refine q_iload rfl rfl rfl ?_
          refine q_iadd rfl rfl (q_tn (z := 10) rfl ?_)
          refine q_dup2 rfl rfl ?_
          refine q_iald rfl rfl (by decide) rfl (by decide) (q_tn (z := 0) rfl ?_)
          refine q_iconst rfl rfl ?_
          refine q_aload_n rfl rfl rfl ?_
          refine q_getf rfl rfl (by decide) rfl rfl ?_
          refine q_bipush rfl rfl ?_
          refine q_iload rfl rfl rfl ?_
          refine q_iadd rfl rfl (q_tn (z := 14) rfl ?_)
          refine q_iald rfl rfl (by decide) rfl (by decide) (q_tn (z := 0) rfl ?_)
          refine q_ishl rfl rfl (q_tn (z := 1) rfl ?_)
          refine q_ior rfl rfl (q_tn (z := 1) rfl ?_)
          refine q_iast rfl rfl (by decide) rfl (by decide) ?_
          refine q_icc4 (z := 3) rfl rfl rfl rfl rfl ?_
          refine q_goto rfl ?_
          refine q_iload rfl rfl rfl ?_
          refine q_iconst rfl rfl ?_
          refine q_icge rfl rfl (fun c394 => absurd c394 (by decide)) (fun c394 => ?_)
          refine q_aload_n rfl rfl rfl ?_
          refine q_getf rfl rfl (by decide) rfl rfl ?_
          refine q_iconst rfl rfl ?_
          refine q_iload_n rfl rfl rfl ?_
          refine q_imul rfl rfl (q_tn (z := 8) rfl ?_)
          refine q_iload rfl rfl rfl ?_
          refine q_iadd rfl rfl (q_tn (z := 11) rfl ?_)
          refine q_dup2 rfl rfl ?_
          refine q_iald rfl rfl (by decide) rfl (by decide) (q_tn (z := 0) rfl ?_)
          refine q_iconst rfl rfl ?_
          refine q_aload_n rfl rfl rfl ?_
          refine q_getf rfl rfl (by decide) rfl rfl ?_
          refine q_bipush rfl rfl ?_
          refine q_iload rfl rfl rfl ?_
          refine q_iadd rfl rfl (q_tn (z := 15) rfl ?_)
          refine q_iald rfl rfl (by decide) rfl (by decide) (q_tn (z := 0) rfl ?_)
          refine q_ishl rfl rfl (q_tn (z := 1) rfl ?_)
          refine q_ior rfl rfl (q_tn (z := 1) rfl ?_)
          refine q_iast rfl rfl (by decide) rfl (by decide) ?_
          refine q_icc4 (z := 4) rfl rfl rfl rfl rfl ?_
          refine q_goto rfl ?_
          refine q_iload rfl rfl rfl ?_
          refine q_iconst rfl rfl ?_
          refine q_icge rfl rfl (fun c395 => ?_) (fun c395 => absurd (by decide) c395)
          refine q_icc3 (z := 1) rfl rfl rfl rfl rfl ?_
          refine q_goto rfl ?_
          refine q_iload_n rfl rfl rfl ?_
          refine q_aload_n rfl rfl rfl ?_
          refine q_getf rfl rfl (by decide) rfl rfl ?_
          refine q_iload_n rfl rfl rfl ?_
          refine q_iald rfl rfl (by decide) rfl (by decide) (q_tn (z := 1) rfl ?_)
          refine q_icge rfl rfl (fun c396 => ?_) (fun c396 => absurd (by decide) c396)
          refine q_aload_n rfl rfl rfl ?_
          refine q_getf rfl rfl (by decide) rfl rfl ?_
          refine q_iload_n rfl rfl rfl ?_
          refine q_iald rfl rfl (by decide) rfl (by decide) (q_tn (z := 1) rfl ?_)
          refine q_iconst rfl rfl ?_
          refine q_icne rfl rfl (fun c397 => absurd c397 (by decide)) (fun c397 => ?_)
          refine q_iconst rfl rfl ?_
          refine q_iret rfl rfl rfl ?_
          refine ⟨_, rfl, ?_⟩
          refine q_ifne rfl rfl (fun c398 => ?_) (fun c398 => absurd (by decide) c398)
          refine q_iload_n rfl rfl rfl ?_
          refine q_ifeq rfl rfl (fun c399 => ?_) (fun c399 => absurd (by decide) c399)
          refine q_iconst rfl rfl ?_
          refine q_ist1n rfl rfl rfl rfl ?_
          refine q_icc2 (z := 3) rfl rfl rfl rfl rfl ?_
          refine q_goto rfl ?_
          refine q_iload_n rfl rfl rfl ?_
          refine q_iconst rfl rfl ?_
          refine q_icge rfl rfl (fun c400 => absurd c400 (by decide)) (fun c400 => ?_)
          refine q_aload_n rfl rfl rfl ?_
          refine q_iload_n rfl rfl rfl ?_
          refine q_nV1 rfl rfl (Or.inl rfl) rfl rfl rfl (by decide) rfl ⟨rfl, rfl⟩ rfl ?_
          change PQ _ _ _ mm_X12_isSpent 0 [.ref 46, .int 3, pm_un, pm_un, pm_un] [] _ _ 0 0 _
          refine q_iload_n rfl rfl rfl ?_
          refine q_ifne rfl rfl (fun c401 => absurd c401 (by decide)) (fun c401 => ?_)
          refine q_iconst rfl rfl ?_
          refine q_ist2n rfl rfl rfl rfl ?_
          refine q_aload_n rfl rfl rfl ?_
          refine q_iconst rfl rfl ?_
          refine q_putf rfl rfl (by decide) rfl (by decide) rfl trivial ?_
          refine q_aload_n rfl rfl rfl ?_
          refine q_getf rfl rfl (by decide) rfl rfl ?_
          refine q_iload_n rfl rfl rfl ?_
          refine q_iald rfl rfl (by decide) rfl (by decide) (q_tn (z := 0) rfl ?_)
          refine q_ifeq rfl rfl (fun c402 => ?_) (fun c402 => absurd (by decide) c402)
          refine q_aload_n rfl rfl rfl ?_
          refine q_getf rfl rfl (by decide) rfl rfl ?_
          refine q_iload_n rfl rfl rfl ?_
          refine q_aload_n rfl rfl rfl ?_
          refine q_iload_n rfl rfl rfl ?_
          refine q_iload_n rfl rfl rfl ?_
          refine q_nV2 rfl rfl (Or.inl rfl) rfl rfl rfl (by decide) rfl ⟨rfl, rfl⟩ rfl ?_
          change PQ _ _ _ mm_X12_explore 0 [.ref 46, .int 1, .int 3, pm_un, pm_un, pm_un, pm_un, pm_un] [] _ _ 0 0 _
          refine q_iconst rfl rfl ?_
          refine q_ist3n rfl rfl rfl rfl ?_
          refine l_net (R := 1) (by decide) rfl (by decide) rfl rfl rfl ?_
          refine q_aload_n rfl rfl rfl ?_
          refine q_getf rfl rfl (by decide) rfl rfl ?_
          refine q_iload_n rfl rfl rfl ?_
          refine q_iconst rfl rfl ?_
          refine q_iast rfl rfl (by decide) rfl (by decide) ?_
          refine q_aload_n rfl rfl rfl ?_
          refine q_nV0v rfl rfl (Or.inl rfl) rfl rfl rfl (by decide) rfl ⟨rfl, rfl⟩ rfl ?_
          change PQ _ _ _ mm_X12_firstState 0 [.ref 46, pm_un] [] _ _ 0 0 _
          refine q_iconst rfl rfl ?_
          refine q_ist1n rfl rfl rfl rfl ?_
          refine q_iload_n rfl rfl rfl ?_
          refine q_bipush rfl rfl ?_
          refine q_icge rfl rfl (fun c403 => absurd c403 (by decide)) (fun c403 => ?_)
          refine q_aload_n rfl rfl rfl ?_
          refine q_getf rfl rfl (by decide) rfl rfl ?_
          refine q_iload_n rfl rfl rfl ?_
          refine q_iconst rfl rfl ?_
          refine q_iast rfl rfl (by decide) rfl (by decide) ?_
          refine q_icc1 (z := 1) rfl rfl rfl rfl rfl ?_
          refine q_goto rfl ?_
          refine q_iload_n rfl rfl rfl ?_
          refine q_bipush rfl rfl ?_
          refine q_icge rfl rfl (fun c404 => absurd c404 (by decide)) (fun c404 => ?_)
          refine q_aload_n rfl rfl rfl ?_
          refine q_getf rfl rfl (by decide) rfl rfl ?_
          refine q_iload_n rfl rfl rfl ?_
          refine q_iconst rfl rfl ?_
          refine q_iast rfl rfl (by decide) rfl (by decide) ?_
          refine q_icc1 (z := 2) rfl rfl rfl rfl rfl ?_
          refine q_goto rfl ?_
          refine q_iload_n rfl rfl rfl ?_
          refine q_bipush rfl rfl ?_
          refine q_icge rfl rfl (fun c405 => absurd c405 (by decide)) (fun c405 => ?_)
          refine q_aload_n rfl rfl rfl ?_
          refine q_getf rfl rfl (by decide) rfl rfl ?_
          refine q_iload_n rfl rfl rfl ?_
          refine q_iconst rfl rfl ?_
          refine q_iast rfl rfl (by decide) rfl (by decide) ?_
          refine q_icc1 (z := 3) rfl rfl rfl rfl rfl ?_
          refine q_goto rfl ?_
          refine q_iload_n rfl rfl rfl ?_
          refine q_bipush rfl rfl ?_
          refine q_icge rfl rfl (fun c406 => absurd c406 (by decide)) (fun c406 => ?_)
          refine q_aload_n rfl rfl rfl ?_
          refine q_getf rfl rfl (by decide) rfl rfl ?_
          refine q_iload_n rfl rfl rfl ?_
          refine q_iconst rfl rfl ?_
          refine q_iast rfl rfl (by decide) rfl (by decide) ?_
          refine q_icc1 (z := 4) rfl rfl rfl rfl rfl ?_
          refine q_goto rfl ?_
          refine q_iload_n rfl rfl rfl ?_
          refine q_bipush rfl rfl ?_
          refine q_icge rfl rfl (fun c407 => absurd c407 (by decide)) (fun c407 => ?_)
          refine q_aload_n rfl rfl rfl ?_
          refine q_getf rfl rfl (by decide) rfl rfl ?_
          refine q_iload_n rfl rfl rfl ?_
          refine q_iconst rfl rfl ?_
          refine q_iast rfl rfl (by decide) rfl (by decide) ?_
          refine q_icc1 (z := 5) rfl rfl rfl rfl rfl ?_
          refine q_goto rfl ?_
          refine q_iload_n rfl rfl rfl ?_
          refine q_bipush rfl rfl ?_
          refine q_icge rfl rfl (fun c408 => absurd c408 (by decide)) (fun c408 => ?_)
          refine q_aload_n rfl rfl rfl ?_
          refine q_getf rfl rfl (by decide) rfl rfl ?_
          refine q_iload_n rfl rfl rfl ?_
          refine q_iconst rfl rfl ?_
          refine q_iast rfl rfl (by decide) rfl (by decide) ?_
          refine q_icc1 (z := 6) rfl rfl rfl rfl rfl ?_
          refine q_goto rfl ?_
          refine q_iload_n rfl rfl rfl ?_
          refine q_bipush rfl rfl ?_
          refine q_icge rfl rfl (fun c409 => absurd c409 (by decide)) (fun c409 => ?_)
          refine q_aload_n rfl rfl rfl ?_
          refine q_getf rfl rfl (by decide) rfl rfl ?_
          refine q_iload_n rfl rfl rfl ?_
          refine q_iconst rfl rfl ?_
          refine q_iast rfl rfl (by decide) rfl (by decide) ?_
          refine q_icc1 (z := 7) rfl rfl rfl rfl rfl ?_
          refine q_goto rfl ?_
          refine q_iload_n rfl rfl rfl ?_
          refine q_bipush rfl rfl ?_
          refine q_icge rfl rfl (fun c410 => absurd c410 (by decide)) (fun c410 => ?_)
          refine q_aload_n rfl rfl rfl ?_
          refine q_getf rfl rfl (by decide) rfl rfl ?_
          refine q_iload_n rfl rfl rfl ?_
          refine q_iconst rfl rfl ?_
          refine q_iast rfl rfl (by decide) rfl (by decide) ?_
          refine q_icc1 (z := 8) rfl rfl rfl rfl rfl ?_
          refine q_goto rfl ?_
          refine q_iload_n rfl rfl rfl ?_
          refine q_bipush rfl rfl ?_
          refine q_icge rfl rfl (fun c411 => absurd c411 (by decide)) (fun c411 => ?_)
          refine q_aload_n rfl rfl rfl ?_
          refine q_getf rfl rfl (by decide) rfl rfl ?_
          refine q_iload_n rfl rfl rfl ?_
          refine q_iconst rfl rfl ?_
          refine q_iast rfl rfl (by decide) rfl (by decide) ?_
          refine q_icc1 (z := 9) rfl rfl rfl rfl rfl ?_
          refine q_goto rfl ?_
          refine q_iload_n rfl rfl rfl ?_
          refine q_bipush rfl rfl ?_
          refine q_icge rfl rfl (fun c412 => absurd c412 (by decide)) (fun c412 => ?_)
          refine q_aload_n rfl rfl rfl ?_
          refine q_getf rfl rfl (by decide) rfl rfl ?_
          refine q_iload_n rfl rfl rfl ?_
          refine q_iconst rfl rfl ?_
          refine q_iast rfl rfl (by decide) rfl (by decide) ?_
          refine q_icc1 (z := 10) rfl rfl rfl rfl rfl ?_
          refine q_goto rfl ?_
          refine q_iload_n rfl rfl rfl ?_
          refine q_bipush rfl rfl ?_
          refine q_icge rfl rfl (fun c413 => absurd c413 (by decide)) (fun c413 => ?_)
          refine q_aload_n rfl rfl rfl ?_
          refine q_getf rfl rfl (by decide) rfl rfl ?_
          refine q_iload_n rfl rfl rfl ?_
          refine q_iconst rfl rfl ?_
          refine q_iast rfl rfl (by decide) rfl (by decide) ?_
          refine q_icc1 (z := 11) rfl rfl rfl rfl rfl ?_
          refine q_goto rfl ?_
          refine q_iload_n rfl rfl rfl ?_
          refine q_bipush rfl rfl ?_
          refine q_icge rfl rfl (fun c414 => absurd c414 (by decide)) (fun c414 => ?_)
          refine q_aload_n rfl rfl rfl ?_
          refine q_getf rfl rfl (by decide) rfl rfl ?_
          refine q_iload_n rfl rfl rfl ?_
          refine q_iconst rfl rfl ?_
          refine q_iast rfl rfl (by decide) rfl (by decide) ?_
          refine q_icc1 (z := 12) rfl rfl rfl rfl rfl ?_
          refine q_goto rfl ?_
          refine q_iload_n rfl rfl rfl ?_
          refine q_bipush rfl rfl ?_
          refine q_icge rfl rfl (fun c415 => absurd c415 (by decide)) (fun c415 => ?_)
          refine q_aload_n rfl rfl rfl ?_
          refine q_getf rfl rfl (by decide) rfl rfl ?_
          refine q_iload_n rfl rfl rfl ?_
          refine q_iconst rfl rfl ?_
          refine q_iast rfl rfl (by decide) rfl (by decide) ?_
          refine q_icc1 (z := 13) rfl rfl rfl rfl rfl ?_
          refine q_goto rfl ?_
          refine q_iload_n rfl rfl rfl ?_
          refine q_bipush rfl rfl ?_
          refine q_icge rfl rfl (fun c416 => absurd c416 (by decide)) (fun c416 => ?_)
          refine q_aload_n rfl rfl rfl ?_
          refine q_getf rfl rfl (by decide) rfl rfl ?_
          refine q_iload_n rfl rfl rfl ?_
          refine q_iconst rfl rfl ?_
          refine q_iast rfl rfl (by decide) rfl (by decide) ?_
          refine q_icc1 (z := 14) rfl rfl rfl rfl rfl ?_
          refine q_goto rfl ?_
          refine q_iload_n rfl rfl rfl ?_
          refine q_bipush rfl rfl ?_
          refine q_icge rfl rfl (fun c417 => absurd c417 (by decide)) (fun c417 => ?_)
          refine q_aload_n rfl rfl rfl ?_
          refine q_getf rfl rfl (by decide) rfl rfl ?_
          refine q_iload_n rfl rfl rfl ?_
          refine q_iconst rfl rfl ?_
          refine q_iast rfl rfl (by decide) rfl (by decide) ?_
          refine q_icc1 (z := 15) rfl rfl rfl rfl rfl ?_
          refine q_goto rfl ?_
          refine q_iload_n rfl rfl rfl ?_
          refine q_bipush rfl rfl ?_
          refine q_icge rfl rfl (fun c418 => absurd c418 (by decide)) (fun c418 => ?_)
          refine q_aload_n rfl rfl rfl ?_
          refine q_getf rfl rfl (by decide) rfl rfl ?_
          refine q_iload_n rfl rfl rfl ?_
          refine q_iconst rfl rfl ?_
          refine q_iast rfl rfl (by decide) rfl (by decide) ?_
          refine q_icc1 (z := 16) rfl rfl rfl rfl rfl ?_
          refine q_goto rfl ?_
          refine q_iload_n rfl rfl rfl ?_
          refine q_bipush rfl rfl ?_
          refine q_icge rfl rfl (fun c419 => absurd c419 (by decide)) (fun c419 => ?_)
          refine q_aload_n rfl rfl rfl ?_
          refine q_getf rfl rfl (by decide) rfl rfl ?_
          refine q_iload_n rfl rfl rfl ?_
          refine q_iconst rfl rfl ?_
          refine q_iast rfl rfl (by decide) rfl (by decide) ?_
          refine q_icc1 (z := 17) rfl rfl rfl rfl rfl ?_
          refine q_goto rfl ?_
          refine q_iload_n rfl rfl rfl ?_
          refine q_bipush rfl rfl ?_
          refine q_icge rfl rfl (fun c420 => absurd c420 (by decide)) (fun c420 => ?_)
          refine q_aload_n rfl rfl rfl ?_
          refine q_getf rfl rfl (by decide) rfl rfl ?_
          refine q_iload_n rfl rfl rfl ?_
          refine q_iconst rfl rfl ?_
          refine q_iast rfl rfl (by decide) rfl (by decide) ?_
          refine q_icc1 (z := 18) rfl rfl rfl rfl rfl ?_
          refine q_goto rfl ?_
          refine q_iload_n rfl rfl rfl ?_
          refine q_bipush rfl rfl ?_
          refine q_icge rfl rfl (fun c421 => absurd c421 (by decide)) (fun c421 => ?_)
          refine q_aload_n rfl rfl rfl ?_
          refine q_getf rfl rfl (by decide) rfl rfl ?_
          refine q_iload_n rfl rfl rfl ?_
          refine q_iconst rfl rfl ?_
          refine q_iast rfl rfl (by decide) rfl (by decide) ?_
          refine q_icc1 (z := 19) rfl rfl rfl rfl rfl ?_
          refine q_goto rfl ?_
          refine q_iload_n rfl rfl rfl ?_
          refine q_bipush rfl rfl ?_
          refine q_icge rfl rfl (fun c422 => absurd c422 (by decide)) (fun c422 => ?_)
          refine q_aload_n rfl rfl rfl ?_
          refine q_getf rfl rfl (by decide) rfl rfl ?_
          refine q_iload_n rfl rfl rfl ?_
          refine q_iconst rfl rfl ?_
          refine q_iast rfl rfl (by decide) rfl (by decide) ?_
          refine q_icc1 (z := 20) rfl rfl rfl rfl rfl ?_
          refine q_goto rfl ?_
          refine q_iload_n rfl rfl rfl ?_
          refine q_bipush rfl rfl ?_
          refine q_icge rfl rfl (fun c423 => ?_) (fun c423 => absurd (by decide) c423)
          refine q_iconst rfl rfl ?_
          refine q_ist1n rfl rfl rfl rfl ?_
          refine q_iload_n rfl rfl rfl ?_
          refine q_aload_n rfl rfl rfl ?_
          refine q_getf rfl rfl (by decide) rfl rfl ?_
          refine q_icge rfl rfl (fun c424 => absurd c424 (by decide)) (fun c424 => ?_)
          refine q_aload_n rfl rfl rfl ?_
          refine q_getf rfl rfl (by decide) rfl rfl ?_
          refine q_iconst rfl rfl ?_
          refine q_iload_n rfl rfl rfl ?_
          refine q_imul rfl rfl (q_tn (z := 0) rfl ?_)
          refine q_aload_n rfl rfl rfl ?_
          refine q_getf rfl rfl (by decide) rfl rfl ?_
          refine q_aload_n rfl rfl rfl ?_
          refine q_getf rfl rfl (by decide) rfl rfl ?_
          refine q_iload_n rfl rfl rfl ?_
          refine q_iadd rfl rfl (q_tn (z := 0) rfl ?_)
          refine q_iald rfl rfl (by decide) ((FM_47 hM).trans (FW_47 S hW)) (by decide) (q_tn (z := 0) rfl ?_)
          refine q_ifne rfl rfl (fun c425 => ?_) (fun c425 => absurd (by decide) c425)
          refine q_bipush rfl rfl ?_
          refine q_goto rfl ?_
          refine q_iast rfl rfl (by decide) rfl (by decide) ?_
          refine q_icc1 (z := 1) rfl rfl rfl rfl rfl ?_
          refine q_goto rfl ?_
          refine q_iload_n rfl rfl rfl ?_
          refine q_aload_n rfl rfl rfl ?_
          refine q_getf rfl rfl (by decide) rfl rfl ?_
          refine q_icge rfl rfl (fun c426 => ?_) (fun c426 => absurd (by decide) c426)
          refine q_iconst rfl rfl ?_
          refine q_ist1n rfl rfl rfl rfl ?_
          refine q_iload_n rfl rfl rfl ?_
          refine q_iconst rfl rfl ?_
          refine q_icge rfl rfl (fun c427 => absurd c427 (by decide)) (fun c427 => ?_)
          refine q_aload_n rfl rfl rfl ?_
          refine q_getf rfl rfl (by decide) rfl rfl ?_
          refine q_bipush rfl rfl ?_
          refine q_iload_n rfl rfl rfl ?_
          refine q_iadd rfl rfl (q_tn (z := 12) rfl ?_)
          refine q_aload_n rfl rfl rfl ?_
          refine q_getf rfl rfl (by decide) rfl rfl ?_
          refine q_iload_n rfl rfl rfl ?_
          refine q_iald rfl rfl (by decide) ((FM_51 hM).trans (FW_51 S hW)) (by decide) (q_tn (z := 0) rfl ?_)
          refine q_iast rfl rfl (by decide) rfl (by decide) ?_
          refine q_icc1 (z := 1) rfl rfl rfl rfl rfl ?_
          refine q_goto rfl ?_
          refine q_iload_n rfl rfl rfl ?_
          refine q_iconst rfl rfl ?_
          refine q_icge rfl rfl (fun c428 => absurd c428 (by decide)) (fun c428 => ?_)
          refine q_aload_n rfl rfl rfl ?_
          refine q_getf rfl rfl (by decide) rfl rfl ?_
          refine q_bipush rfl rfl ?_
          refine q_iload_n rfl rfl rfl ?_
          refine q_iadd rfl rfl (q_tn (z := 13) rfl ?_)
          refine q_aload_n rfl rfl rfl ?_
          refine q_getf rfl rfl (by decide) rfl rfl ?_
          refine q_iload_n rfl rfl rfl ?_
          refine q_iald rfl rfl (by decide) ((FM_51 hM).trans (FW_51 S hW)) (by decide) (q_tn (z := 0) rfl ?_)
          refine q_iast rfl rfl (by decide) rfl (by decide) ?_
          refine q_icc1 (z := 2) rfl rfl rfl rfl rfl ?_
          refine q_goto rfl ?_
          refine q_iload_n rfl rfl rfl ?_
          refine q_iconst rfl rfl ?_
          refine q_icge rfl rfl (fun c429 => absurd c429 (by decide)) (fun c429 => ?_)
          refine q_aload_n rfl rfl rfl ?_
          refine q_getf rfl rfl (by decide) rfl rfl ?_
          refine q_bipush rfl rfl ?_
          refine q_iload_n rfl rfl rfl ?_
          refine q_iadd rfl rfl (q_tn (z := 14) rfl ?_)
          refine q_aload_n rfl rfl rfl ?_
          refine q_getf rfl rfl (by decide) rfl rfl ?_
          refine q_iload_n rfl rfl rfl ?_
          refine q_iald rfl rfl (by decide) ((FM_51 hM).trans (FW_51 S hW)) (by decide) (q_tn (z := 0) rfl ?_)
          refine q_iast rfl rfl (by decide) rfl (by decide) ?_
          refine q_icc1 (z := 3) rfl rfl rfl rfl rfl ?_
          refine q_goto rfl ?_
          refine q_iload_n rfl rfl rfl ?_
          refine q_iconst rfl rfl ?_
          refine q_icge rfl rfl (fun c430 => absurd c430 (by decide)) (fun c430 => ?_)
          refine q_aload_n rfl rfl rfl ?_
          refine q_getf rfl rfl (by decide) rfl rfl ?_
          refine q_bipush rfl rfl ?_
          refine q_iload_n rfl rfl rfl ?_
          refine q_iadd rfl rfl (q_tn (z := 15) rfl ?_)
          refine q_aload_n rfl rfl rfl ?_
          refine q_getf rfl rfl (by decide) rfl rfl ?_
          refine q_iload_n rfl rfl rfl ?_
          refine q_iald rfl rfl (by decide) ((FM_51 hM).trans (FW_51 S hW)) (by decide) (q_tn (z := 0) rfl ?_)
          refine q_iast rfl rfl (by decide) rfl (by decide) ?_
          refine q_icc1 (z := 4) rfl rfl rfl rfl rfl ?_
          refine q_goto rfl ?_
          refine q_iload_n rfl rfl rfl ?_
          refine q_iconst rfl rfl ?_
          refine q_icge rfl rfl (fun c431 => ?_) (fun c431 => absurd (by decide) c431)
          refine q_ret rfl rfl ?_
          refine ⟨rfl, ?_⟩
          refine q_iconst rfl rfl ?_
          refine q_ist3n rfl rfl rfl rfl ?_
          refine q_iload_n rfl rfl rfl ?_
          refine q_bipush rfl rfl ?_
          refine q_icge rfl rfl (fun c432 => absurd c432 (by decide)) (fun c432 => ?_)
          refine q_aload_n rfl rfl rfl ?_
          refine q_getf rfl rfl (by decide) rfl rfl ?_
          refine q_iload_n rfl rfl rfl ?_
          refine q_aload_n rfl rfl rfl ?_
          refine q_getf rfl rfl (by decide) rfl rfl ?_
          refine q_iload_n rfl rfl rfl ?_
          refine q_iald rfl rfl (by decide) rfl (by decide) (q_tn (z := 10) rfl ?_)
          refine q_iast rfl rfl (by decide) rfl (by decide) ?_
          refine q_icc3 (z := 1) rfl rfl rfl rfl rfl ?_
          refine q_goto rfl ?_
          refine q_iload_n rfl rfl rfl ?_
          refine q_bipush rfl rfl ?_
          refine q_icge rfl rfl (fun c433 => absurd c433 (by decide)) (fun c433 => ?_)
          refine q_aload_n rfl rfl rfl ?_
          refine q_getf rfl rfl (by decide) rfl rfl ?_
          refine q_iload_n rfl rfl rfl ?_
          refine q_aload_n rfl rfl rfl ?_
          refine q_getf rfl rfl (by decide) rfl rfl ?_
          refine q_iload_n rfl rfl rfl ?_
          refine q_iald rfl rfl (by decide) rfl (by decide) (q_tn (z := 0) rfl ?_)
          refine q_iast rfl rfl (by decide) rfl (by decide) ?_
          refine q_icc3 (z := 2) rfl rfl rfl rfl rfl ?_
          refine q_goto rfl ?_
          refine q_iload_n rfl rfl rfl ?_
          refine q_bipush rfl rfl ?_
          refine q_icge rfl rfl (fun c434 => absurd c434 (by decide)) (fun c434 => ?_)
          refine q_aload_n rfl rfl rfl ?_
          refine q_getf rfl rfl (by decide) rfl rfl ?_
          refine q_iload_n rfl rfl rfl ?_
          refine q_aload_n rfl rfl rfl ?_
          refine q_getf rfl rfl (by decide) rfl rfl ?_
          refine q_iload_n rfl rfl rfl ?_
          refine q_iald rfl rfl (by decide) rfl (by decide) (q_tn (z := 0) rfl ?_)
          refine q_iast rfl rfl (by decide) rfl (by decide) ?_
          refine q_icc3 (z := 3) rfl rfl rfl rfl rfl ?_
          refine q_goto rfl ?_
          refine q_iload_n rfl rfl rfl ?_
          refine q_bipush rfl rfl ?_
          refine q_icge rfl rfl (fun c435 => absurd c435 (by decide)) (fun c435 => ?_)
          refine q_aload_n rfl rfl rfl ?_
          refine q_getf rfl rfl (by decide) rfl rfl ?_
          refine q_iload_n rfl rfl rfl ?_
          refine q_aload_n rfl rfl rfl ?_
          refine q_getf rfl rfl (by decide) rfl rfl ?_
          refine q_iload_n rfl rfl rfl ?_
          refine q_iald rfl rfl (by decide) rfl (by decide) (q_tn (z := 0) rfl ?_)
          refine q_iast rfl rfl (by decide) rfl (by decide) ?_
          refine q_icc3 (z := 4) rfl rfl rfl rfl rfl ?_
          refine q_goto rfl ?_
          refine q_iload_n rfl rfl rfl ?_
          refine q_bipush rfl rfl ?_
          refine q_icge rfl rfl (fun c436 => absurd c436 (by decide)) (fun c436 => ?_)
          refine q_aload_n rfl rfl rfl ?_
          refine q_getf rfl rfl (by decide) rfl rfl ?_
          refine q_iload_n rfl rfl rfl ?_
          refine q_aload_n rfl rfl rfl ?_
          refine q_getf rfl rfl (by decide) rfl rfl ?_
          refine q_iload_n rfl rfl rfl ?_
          refine q_iald rfl rfl (by decide) rfl (by decide) (q_tn (z := 0) rfl ?_)
          refine q_iast rfl rfl (by decide) rfl (by decide) ?_
          refine q_icc3 (z := 5) rfl rfl rfl rfl rfl ?_
          refine q_goto rfl ?_
          refine q_iload_n rfl rfl rfl ?_
          refine q_bipush rfl rfl ?_
          refine q_icge rfl rfl (fun c437 => absurd c437 (by decide)) (fun c437 => ?_)
          refine q_aload_n rfl rfl rfl ?_
          refine q_getf rfl rfl (by decide) rfl rfl ?_
          refine q_iload_n rfl rfl rfl ?_
          refine q_aload_n rfl rfl rfl ?_
          refine q_getf rfl rfl (by decide) rfl rfl ?_
          refine q_iload_n rfl rfl rfl ?_
          refine q_iald rfl rfl (by decide) rfl (by decide) (q_tn (z := 0) rfl ?_)
          refine q_iast rfl rfl (by decide) rfl (by decide) ?_
          refine q_icc3 (z := 6) rfl rfl rfl rfl rfl ?_
          refine q_goto rfl ?_
          refine q_iload_n rfl rfl rfl ?_
          refine q_bipush rfl rfl ?_
          refine q_icge rfl rfl (fun c438 => absurd c438 (by decide)) (fun c438 => ?_)
          refine q_aload_n rfl rfl rfl ?_
          refine q_getf rfl rfl (by decide) rfl rfl ?_
          refine q_iload_n rfl rfl rfl ?_
          refine q_aload_n rfl rfl rfl ?_
          refine q_getf rfl rfl (by decide) rfl rfl ?_
          refine q_iload_n rfl rfl rfl ?_
          refine q_iald rfl rfl (by decide) rfl (by decide) (q_tn (z := 0) rfl ?_)
          refine q_iast rfl rfl (by decide) rfl (by decide) ?_
          refine q_icc3 (z := 7) rfl rfl rfl rfl rfl ?_
          refine q_goto rfl ?_
          refine q_iload_n rfl rfl rfl ?_
          refine q_bipush rfl rfl ?_
          refine q_icge rfl rfl (fun c439 => absurd c439 (by decide)) (fun c439 => ?_)
          refine q_aload_n rfl rfl rfl ?_
          refine q_getf rfl rfl (by decide) rfl rfl ?_
          refine q_iload_n rfl rfl rfl ?_
          refine q_aload_n rfl rfl rfl ?_
          refine q_getf rfl rfl (by decide) rfl rfl ?_
          refine q_iload_n rfl rfl rfl ?_
          refine q_iald rfl rfl (by decide) rfl (by decide) (q_tn (z := 0) rfl ?_)
          refine q_iast rfl rfl (by decide) rfl (by decide) ?_
          refine q_icc3 (z := 8) rfl rfl rfl rfl rfl ?_
          refine q_goto rfl ?_
          refine q_iload_n rfl rfl rfl ?_
          refine q_bipush rfl rfl ?_
          refine q_icge rfl rfl (fun c440 => absurd c440 (by decide)) (fun c440 => ?_)
          refine q_aload_n rfl rfl rfl ?_
          refine q_getf rfl rfl (by decide) rfl rfl ?_
          refine q_iload_n rfl rfl rfl ?_
          refine q_aload_n rfl rfl rfl ?_
          refine q_getf rfl rfl (by decide) rfl rfl ?_
          refine q_iload_n rfl rfl rfl ?_
          refine q_iald rfl rfl (by decide) rfl (by decide) (q_tn (z := 0) rfl ?_)
          refine q_iast rfl rfl (by decide) rfl (by decide) ?_
          refine q_icc3 (z := 9) rfl rfl rfl rfl rfl ?_
          refine q_goto rfl ?_
          refine q_iload_n rfl rfl rfl ?_
          refine q_bipush rfl rfl ?_
          refine q_icge rfl rfl (fun c441 => absurd c441 (by decide)) (fun c441 => ?_)
          refine q_aload_n rfl rfl rfl ?_
          refine q_getf rfl rfl (by decide) rfl rfl ?_
          refine q_iload_n rfl rfl rfl ?_
          refine q_aload_n rfl rfl rfl ?_
          refine q_getf rfl rfl (by decide) rfl rfl ?_
          refine q_iload_n rfl rfl rfl ?_
          refine q_iald rfl rfl (by decide) rfl (by decide) (q_tn (z := 0) rfl ?_)
          refine q_iast rfl rfl (by decide) rfl (by decide) ?_
          refine q_icc3 (z := 10) rfl rfl rfl rfl rfl ?_
          refine q_goto rfl ?_
          refine q_iload_n rfl rfl rfl ?_
          refine q_bipush rfl rfl ?_
          refine q_icge rfl rfl (fun c442 => absurd c442 (by decide)) (fun c442 => ?_)
          refine q_aload_n rfl rfl rfl ?_
          refine q_getf rfl rfl (by decide) rfl rfl ?_
          refine q_iload_n rfl rfl rfl ?_
          refine q_aload_n rfl rfl rfl ?_
          refine q_getf rfl rfl (by decide) rfl rfl ?_
          refine q_iload_n rfl rfl rfl ?_
          refine q_iald rfl rfl (by decide) rfl (by decide) (q_tn (z := 0) rfl ?_)
          refine q_iast rfl rfl (by decide) rfl (by decide) ?_
          refine q_icc3 (z := 11) rfl rfl rfl rfl rfl ?_
          refine q_goto rfl ?_
          refine q_iload_n rfl rfl rfl ?_
          refine q_bipush rfl rfl ?_
          refine q_icge rfl rfl (fun c443 => absurd c443 (by decide)) (fun c443 => ?_)
          refine q_aload_n rfl rfl rfl ?_
          refine q_getf rfl rfl (by decide) rfl rfl ?_
          refine q_iload_n rfl rfl rfl ?_
          refine q_aload_n rfl rfl rfl ?_
          refine q_getf rfl rfl (by decide) rfl rfl ?_
          refine q_iload_n rfl rfl rfl ?_
          refine q_iald rfl rfl (by decide) rfl (by decide) (q_tn (z := 0) rfl ?_)
          refine q_iast rfl rfl (by decide) rfl (by decide) ?_
          refine q_icc3 (z := 12) rfl rfl rfl rfl rfl ?_
          refine q_goto rfl ?_
          refine q_iload_n rfl rfl rfl ?_
          refine q_bipush rfl rfl ?_
          refine q_icge rfl rfl (fun c444 => absurd c444 (by decide)) (fun c444 => ?_)
          refine q_aload_n rfl rfl rfl ?_
          refine q_getf rfl rfl (by decide) rfl rfl ?_
          refine q_iload_n rfl rfl rfl ?_
          refine q_aload_n rfl rfl rfl ?_
          refine q_getf rfl rfl (by decide) rfl rfl ?_
          refine q_iload_n rfl rfl rfl ?_
          refine q_iald rfl rfl (by decide) rfl (by decide) (q_tn (z := 0) rfl ?_)
          refine q_iast rfl rfl (by decide) rfl (by decide) ?_
          refine q_icc3 (z := 13) rfl rfl rfl rfl rfl ?_
          refine q_goto rfl ?_
          refine q_iload_n rfl rfl rfl ?_
          refine q_bipush rfl rfl ?_
          refine q_icge rfl rfl (fun c445 => absurd c445 (by decide)) (fun c445 => ?_)
          refine q_aload_n rfl rfl rfl ?_
          refine q_getf rfl rfl (by decide) rfl rfl ?_
          refine q_iload_n rfl rfl rfl ?_
          refine q_aload_n rfl rfl rfl ?_
          refine q_getf rfl rfl (by decide) rfl rfl ?_
          refine q_iload_n rfl rfl rfl ?_
          refine q_iald rfl rfl (by decide) rfl (by decide) (q_tn (z := 0) rfl ?_)
          refine q_iast rfl rfl (by decide) rfl (by decide) ?_
          refine q_icc3 (z := 14) rfl rfl rfl rfl rfl ?_
          refine q_goto rfl ?_
          refine q_iload_n rfl rfl rfl ?_
          refine q_bipush rfl rfl ?_
          refine q_icge rfl rfl (fun c446 => absurd c446 (by decide)) (fun c446 => ?_)
          refine q_aload_n rfl rfl rfl ?_
          refine q_getf rfl rfl (by decide) rfl rfl ?_
          refine q_iload_n rfl rfl rfl ?_
          refine q_aload_n rfl rfl rfl ?_
          refine q_getf rfl rfl (by decide) rfl rfl ?_
          refine q_iload_n rfl rfl rfl ?_
          refine q_iald rfl rfl (by decide) rfl (by decide) (q_tn (z := 0) rfl ?_)
          refine q_iast rfl rfl (by decide) rfl (by decide) ?_
          refine q_icc3 (z := 15) rfl rfl rfl rfl rfl ?_
          refine q_goto rfl ?_
          refine q_iload_n rfl rfl rfl ?_
          refine q_bipush rfl rfl ?_
          refine q_icge rfl rfl (fun c447 => absurd c447 (by decide)) (fun c447 => ?_)
          refine q_aload_n rfl rfl rfl ?_
          refine q_getf rfl rfl (by decide) rfl rfl ?_
          refine q_iload_n rfl rfl rfl ?_
          refine q_aload_n rfl rfl rfl ?_
          refine q_getf rfl rfl (by decide) rfl rfl ?_
          refine q_iload_n rfl rfl rfl ?_
          refine q_iald rfl rfl (by decide) rfl (by decide) (q_tn (z := 0) rfl ?_)
          refine q_iast rfl rfl (by decide) rfl (by decide) ?_
          refine q_icc3 (z := 16) rfl rfl rfl rfl rfl ?_
          refine q_goto rfl ?_
          refine q_iload_n rfl rfl rfl ?_
          refine q_bipush rfl rfl ?_
          refine q_icge rfl rfl (fun c448 => absurd c448 (by decide)) (fun c448 => ?_)
          refine q_aload_n rfl rfl rfl ?_
          refine q_getf rfl rfl (by decide) rfl rfl ?_
          refine q_iload_n rfl rfl rfl ?_
          refine q_aload_n rfl rfl rfl ?_
          refine q_getf rfl rfl (by decide) rfl rfl ?_
          refine q_iload_n rfl rfl rfl ?_
          refine q_iald rfl rfl (by decide) rfl (by decide) (q_tn (z := 0) rfl ?_)
          refine q_iast rfl rfl (by decide) rfl (by decide) ?_
          refine q_icc3 (z := 17) rfl rfl rfl rfl rfl ?_
          refine q_goto rfl ?_
          refine q_iload_n rfl rfl rfl ?_
          refine q_bipush rfl rfl ?_
          refine q_icge rfl rfl (fun c449 => absurd c449 (by decide)) (fun c449 => ?_)
          refine q_aload_n rfl rfl rfl ?_
          refine q_getf rfl rfl (by decide) rfl rfl ?_
          refine q_iload_n rfl rfl rfl ?_
          refine q_aload_n rfl rfl rfl ?_
          refine q_getf rfl rfl (by decide) rfl rfl ?_
          refine q_iload_n rfl rfl rfl ?_
          refine q_iald rfl rfl (by decide) rfl (by decide) (q_tn (z := 0) rfl ?_)
          refine q_iast rfl rfl (by decide) rfl (by decide) ?_
          refine q_icc3 (z := 18) rfl rfl rfl rfl rfl ?_
          refine q_goto rfl ?_
          refine q_iload_n rfl rfl rfl ?_
          refine q_bipush rfl rfl ?_
          refine q_icge rfl rfl (fun c450 => absurd c450 (by decide)) (fun c450 => ?_)
          refine q_aload_n rfl rfl rfl ?_
          refine q_getf rfl rfl (by decide) rfl rfl ?_
          refine q_iload_n rfl rfl rfl ?_
          refine q_aload_n rfl rfl rfl ?_
          refine q_getf rfl rfl (by decide) rfl rfl ?_
          refine q_iload_n rfl rfl rfl ?_
          refine q_iald rfl rfl (by decide) rfl (by decide) (q_tn (z := 0) rfl ?_)
          refine q_iast rfl rfl (by decide) rfl (by decide) ?_
          refine q_icc3 (z := 19) rfl rfl rfl rfl rfl ?_
          refine q_goto rfl ?_
          refine q_iload_n rfl rfl rfl ?_
          refine q_bipush rfl rfl ?_
          refine q_icge rfl rfl (fun c451 => absurd c451 (by decide)) (fun c451 => ?_)
          refine q_aload_n rfl rfl rfl ?_
          refine q_getf rfl rfl (by decide) rfl rfl ?_
          refine q_iload_n rfl rfl rfl ?_
          refine q_aload_n rfl rfl rfl ?_
          refine q_getf rfl rfl (by decide) rfl rfl ?_
          refine q_iload_n rfl rfl rfl ?_
          refine q_iald rfl rfl (by decide) rfl (by decide) (q_tn (z := 0) rfl ?_)
          refine q_iast rfl rfl (by decide) rfl (by decide) ?_
          refine q_icc3 (z := 20) rfl rfl rfl rfl rfl ?_
          refine q_goto rfl ?_
          refine q_iload_n rfl rfl rfl ?_
          refine q_bipush rfl rfl ?_
          refine q_icge rfl rfl (fun c452 => ?_) (fun c452 => absurd (by decide) c452)
          refine q_aload_n rfl rfl rfl ?_
          refine q_iload_n rfl rfl rfl ?_
          refine q_iconst rfl rfl ?_
          refine q_iconst rfl rfl ?_
          refine q_nV3 rfl rfl (Or.inl rfl) rfl rfl rfl (by decide) rfl ⟨rfl, rfl⟩ rfl ?_
          change PQ _ _ _ mm_X12_put 0 [.ref 46, .int 1, .int (-1), .int (-1), pm_un, pm_un, pm_un] [] _ _ 0 0 _
          refine q_aload_n rfl rfl rfl ?_
          refine q_getf rfl rfl (by decide) rfl rfl ?_
          refine q_iload_n rfl rfl rfl ?_
          refine q_iald rfl rfl (by decide) rfl (by decide) (q_tn (z := 0) rfl ?_)
          refine q_ist4 rfl rfl rfl rfl ?_
          refine q_iload rfl rfl rfl ?_
          refine q_sipush rfl rfl ?_
          refine q_icne rfl rfl (fun c453 => absurd c453 (by decide)) (fun c453 => ?_)
          refine q_sipush rfl rfl ?_
          refine q_iload_n rfl rfl rfl ?_
          refine q_imul rfl rfl (q_tn (z := 2000) rfl ?_)
          refine q_iload rfl rfl rfl ?_
          refine q_iadd rfl rfl (q_tn (z := 2000) rfl ?_)
          refine q_ist5 rfl rfl rfl rfl ?_
          refine q_iconst rfl rfl ?_
          refine q_ist6 rfl rfl rfl rfl ?_
          refine q_iload rfl rfl rfl ?_
          refine q_bipush rfl rfl ?_
          refine q_icge rfl rfl (fun c454 => absurd c454 (by decide)) (fun c454 => ?_)
          refine q_aload_n rfl rfl rfl ?_
          refine q_getf rfl rfl (by decide) rfl rfl ?_
          refine q_bipush rfl rfl ?_
          refine q_iload rfl rfl rfl ?_
          refine q_imul rfl rfl (q_tn (z := 40000) rfl ?_)
          refine q_iload rfl rfl rfl ?_
          refine q_iadd rfl rfl (q_tn (z := 40000) rfl ?_)
          refine q_aload_n rfl rfl rfl ?_
          refine q_getf rfl rfl (by decide) rfl rfl ?_
          refine q_iload rfl rfl rfl ?_
          refine q_iald rfl rfl (by decide) rfl (by decide) (q_tn (z := 10) rfl ?_)
          refine q_iast rfl rfl (by decide) rfl (by decide) ?_
          refine q_icc6 (z := 1) rfl rfl rfl rfl rfl ?_
          refine q_goto rfl ?_
          refine q_iload rfl rfl rfl ?_
          refine q_bipush rfl rfl ?_
          refine q_icge rfl rfl (fun c455 => absurd c455 (by decide)) (fun c455 => ?_)
          refine q_aload_n rfl rfl rfl ?_
          refine q_getf rfl rfl (by decide) rfl rfl ?_
          refine q_bipush rfl rfl ?_
          refine q_iload rfl rfl rfl ?_
          refine q_imul rfl rfl (q_tn (z := 40000) rfl ?_)
          refine q_iload rfl rfl rfl ?_
          refine q_iadd rfl rfl (q_tn (z := 40001) rfl ?_)
          refine q_aload_n rfl rfl rfl ?_
          refine q_getf rfl rfl (by decide) rfl rfl ?_
          refine q_iload rfl rfl rfl ?_
          refine q_iald rfl rfl (by decide) rfl (by decide) (q_tn (z := 0) rfl ?_)
          refine q_iast rfl rfl (by decide) rfl (by decide) ?_
          refine q_icc6 (z := 2) rfl rfl rfl rfl rfl ?_
          refine q_goto rfl ?_
          refine q_iload rfl rfl rfl ?_
          refine q_bipush rfl rfl ?_
          refine q_icge rfl rfl (fun c456 => absurd c456 (by decide)) (fun c456 => ?_)
          refine q_aload_n rfl rfl rfl ?_
          refine q_getf rfl rfl (by decide) rfl rfl ?_
          refine q_bipush rfl rfl ?_
          refine q_iload rfl rfl rfl ?_
          refine q_imul rfl rfl (q_tn (z := 40000) rfl ?_)
          refine q_iload rfl rfl rfl ?_
          refine q_iadd rfl rfl (q_tn (z := 40002) rfl ?_)
          refine q_aload_n rfl rfl rfl ?_
          refine q_getf rfl rfl (by decide) rfl rfl ?_
          refine q_iload rfl rfl rfl ?_
          refine q_iald rfl rfl (by decide) rfl (by decide) (q_tn (z := 0) rfl ?_)
          refine q_iast rfl rfl (by decide) rfl (by decide) ?_
          refine q_icc6 (z := 3) rfl rfl rfl rfl rfl ?_
          refine q_goto rfl ?_
          refine q_iload rfl rfl rfl ?_
          refine q_bipush rfl rfl ?_
          refine q_icge rfl rfl (fun c457 => absurd c457 (by decide)) (fun c457 => ?_)
          refine q_aload_n rfl rfl rfl ?_
          refine q_getf rfl rfl (by decide) rfl rfl ?_
          refine q_bipush rfl rfl ?_
          refine q_iload rfl rfl rfl ?_
          refine q_imul rfl rfl (q_tn (z := 40000) rfl ?_)
          refine q_iload rfl rfl rfl ?_
          refine q_iadd rfl rfl (q_tn (z := 40003) rfl ?_)
          refine q_aload_n rfl rfl rfl ?_
          refine q_getf rfl rfl (by decide) rfl rfl ?_
          refine q_iload rfl rfl rfl ?_
          refine q_iald rfl rfl (by decide) rfl (by decide) (q_tn (z := 0) rfl ?_)
          refine q_iast rfl rfl (by decide) rfl (by decide) ?_
          refine q_icc6 (z := 4) rfl rfl rfl rfl rfl ?_
          refine q_goto rfl ?_
          refine q_iload rfl rfl rfl ?_
          refine q_bipush rfl rfl ?_
          refine q_icge rfl rfl (fun c458 => absurd c458 (by decide)) (fun c458 => ?_)
          refine q_aload_n rfl rfl rfl ?_
          refine q_getf rfl rfl (by decide) rfl rfl ?_
          refine q_bipush rfl rfl ?_
          refine q_iload rfl rfl rfl ?_
          refine q_imul rfl rfl (q_tn (z := 40000) rfl ?_)
          refine q_iload rfl rfl rfl ?_
          refine q_iadd rfl rfl (q_tn (z := 40004) rfl ?_)
          refine q_aload_n rfl rfl rfl ?_
          refine q_getf rfl rfl (by decide) rfl rfl ?_
          refine q_iload rfl rfl rfl ?_
          refine q_iald rfl rfl (by decide) rfl (by decide) (q_tn (z := 0) rfl ?_)
          refine q_iast rfl rfl (by decide) rfl (by decide) ?_
          refine q_icc6 (z := 5) rfl rfl rfl rfl rfl ?_
          refine q_goto rfl ?_
          refine q_iload rfl rfl rfl ?_
          refine q_bipush rfl rfl ?_
          refine q_icge rfl rfl (fun c459 => absurd c459 (by decide)) (fun c459 => ?_)
          refine q_aload_n rfl rfl rfl ?_
          refine q_getf rfl rfl (by decide) rfl rfl ?_
          refine q_bipush rfl rfl ?_
          refine q_iload rfl rfl rfl ?_
          refine q_imul rfl rfl (q_tn (z := 40000) rfl ?_)
          refine q_iload rfl rfl rfl ?_
          refine q_iadd rfl rfl (q_tn (z := 40005) rfl ?_)
          refine q_aload_n rfl rfl rfl ?_
          refine q_getf rfl rfl (by decide) rfl rfl ?_
          refine q_iload rfl rfl rfl ?_
          refine q_iald rfl rfl (by decide) rfl (by decide) (q_tn (z := 0) rfl ?_)
          refine q_iast rfl rfl (by decide) rfl (by decide) ?_
          refine q_icc6 (z := 6) rfl rfl rfl rfl rfl ?_
          refine q_goto rfl ?_
          refine q_iload rfl rfl rfl ?_
          refine q_bipush rfl rfl ?_
          refine q_icge rfl rfl (fun c460 => absurd c460 (by decide)) (fun c460 => ?_)
          refine q_aload_n rfl rfl rfl ?_
          refine q_getf rfl rfl (by decide) rfl rfl ?_
          refine q_bipush rfl rfl ?_
          refine q_iload rfl rfl rfl ?_
          refine q_imul rfl rfl (q_tn (z := 40000) rfl ?_)
          refine q_iload rfl rfl rfl ?_
          refine q_iadd rfl rfl (q_tn (z := 40006) rfl ?_)
          refine q_aload_n rfl rfl rfl ?_
          refine q_getf rfl rfl (by decide) rfl rfl ?_
          refine q_iload rfl rfl rfl ?_
          refine q_iald rfl rfl (by decide) rfl (by decide) (q_tn (z := 0) rfl ?_)
          refine q_iast rfl rfl (by decide) rfl (by decide) ?_
          refine q_icc6 (z := 7) rfl rfl rfl rfl rfl ?_
          refine q_goto rfl ?_
          refine q_iload rfl rfl rfl ?_
          refine q_bipush rfl rfl ?_
          refine q_icge rfl rfl (fun c461 => absurd c461 (by decide)) (fun c461 => ?_)
          refine q_aload_n rfl rfl rfl ?_
          refine q_getf rfl rfl (by decide) rfl rfl ?_
          refine q_bipush rfl rfl ?_
          refine q_iload rfl rfl rfl ?_
          refine q_imul rfl rfl (q_tn (z := 40000) rfl ?_)
          refine q_iload rfl rfl rfl ?_
          refine q_iadd rfl rfl (q_tn (z := 40007) rfl ?_)
          refine q_aload_n rfl rfl rfl ?_
          refine q_getf rfl rfl (by decide) rfl rfl ?_
          refine q_iload rfl rfl rfl ?_
          refine q_iald rfl rfl (by decide) rfl (by decide) (q_tn (z := 0) rfl ?_)
          refine q_iast rfl rfl (by decide) rfl (by decide) ?_
          refine q_icc6 (z := 8) rfl rfl rfl rfl rfl ?_
          refine q_goto rfl ?_
          refine q_iload rfl rfl rfl ?_
          refine q_bipush rfl rfl ?_
          refine q_icge rfl rfl (fun c462 => absurd c462 (by decide)) (fun c462 => ?_)
          refine q_aload_n rfl rfl rfl ?_
          refine q_getf rfl rfl (by decide) rfl rfl ?_
          refine q_bipush rfl rfl ?_
          refine q_iload rfl rfl rfl ?_
          refine q_imul rfl rfl (q_tn (z := 40000) rfl ?_)
          refine q_iload rfl rfl rfl ?_
          refine q_iadd rfl rfl (q_tn (z := 40008) rfl ?_)
          refine q_aload_n rfl rfl rfl ?_
          refine q_getf rfl rfl (by decide) rfl rfl ?_
          refine q_iload rfl rfl rfl ?_
          refine q_iald rfl rfl (by decide) rfl (by decide) (q_tn (z := 0) rfl ?_)
          refine q_iast rfl rfl (by decide) rfl (by decide) ?_
          refine q_icc6 (z := 9) rfl rfl rfl rfl rfl ?_
          refine q_goto rfl ?_
          refine q_iload rfl rfl rfl ?_
          refine q_bipush rfl rfl ?_
          refine q_icge rfl rfl (fun c463 => absurd c463 (by decide)) (fun c463 => ?_)
          refine q_aload_n rfl rfl rfl ?_
          refine q_getf rfl rfl (by decide) rfl rfl ?_
          refine q_bipush rfl rfl ?_
          refine q_iload rfl rfl rfl ?_
          refine q_imul rfl rfl (q_tn (z := 40000) rfl ?_)
          refine q_iload rfl rfl rfl ?_
          refine q_iadd rfl rfl (q_tn (z := 40009) rfl ?_)
          refine q_aload_n rfl rfl rfl ?_
          refine q_getf rfl rfl (by decide) rfl rfl ?_
          refine q_iload rfl rfl rfl ?_
          refine q_iald rfl rfl (by decide) rfl (by decide) (q_tn (z := 0) rfl ?_)
          refine q_iast rfl rfl (by decide) rfl (by decide) ?_
          refine q_icc6 (z := 10) rfl rfl rfl rfl rfl ?_
          refine q_goto rfl ?_
          refine q_iload rfl rfl rfl ?_
          refine q_bipush rfl rfl ?_
          refine q_icge rfl rfl (fun c464 => absurd c464 (by decide)) (fun c464 => ?_)
          refine q_aload_n rfl rfl rfl ?_
          refine q_getf rfl rfl (by decide) rfl rfl ?_
          refine q_bipush rfl rfl ?_
          refine q_iload rfl rfl rfl ?_
          refine q_imul rfl rfl (q_tn (z := 40000) rfl ?_)
          refine q_iload rfl rfl rfl ?_
          refine q_iadd rfl rfl (q_tn (z := 40010) rfl ?_)
          refine q_aload_n rfl rfl rfl ?_
          refine q_getf rfl rfl (by decide) rfl rfl ?_
          refine q_iload rfl rfl rfl ?_
          refine q_iald rfl rfl (by decide) rfl (by decide) (q_tn (z := 0) rfl ?_)
          refine q_iast rfl rfl (by decide) rfl (by decide) ?_
          refine q_icc6 (z := 11) rfl rfl rfl rfl rfl ?_
          refine q_goto rfl ?_
          refine q_iload rfl rfl rfl ?_
          refine q_bipush rfl rfl ?_
          refine q_icge rfl rfl (fun c465 => absurd c465 (by decide)) (fun c465 => ?_)
          refine q_aload_n rfl rfl rfl ?_
          refine q_getf rfl rfl (by decide) rfl rfl ?_
          refine q_bipush rfl rfl ?_
          refine q_iload rfl rfl rfl ?_
          refine q_imul rfl rfl (q_tn (z := 40000) rfl ?_)
          refine q_iload rfl rfl rfl ?_
          refine q_iadd rfl rfl (q_tn (z := 40011) rfl ?_)
          refine q_aload_n rfl rfl rfl ?_
          refine q_getf rfl rfl (by decide) rfl rfl ?_
          refine q_iload rfl rfl rfl ?_
          refine q_iald rfl rfl (by decide) rfl (by decide) (q_tn (z := 0) rfl ?_)
          refine q_iast rfl rfl (by decide) rfl (by decide) ?_
          as_aux_lemma =>
            refine q_icc6 (z := 12) rfl rfl rfl rfl rfl ?_
            refine q_goto rfl ?_
            refine q_iload rfl rfl rfl ?_
            refine q_bipush rfl rfl ?_
            refine q_icge rfl rfl (fun c466 => absurd c466 (by decide)) (fun c466 => ?_)
            refine q_aload_n rfl rfl rfl ?_
            refine q_getf rfl rfl (by decide) rfl rfl ?_
            refine q_bipush rfl rfl ?_
            refine q_iload rfl rfl rfl ?_
            refine q_imul rfl rfl (q_tn (z := 40000) rfl ?_)
            refine q_iload rfl rfl rfl ?_
            refine q_iadd rfl rfl (q_tn (z := 40012) rfl ?_)
            refine q_aload_n rfl rfl rfl ?_
            refine q_getf rfl rfl (by decide) rfl rfl ?_
            refine q_iload rfl rfl rfl ?_
            refine q_iald rfl rfl (by decide) rfl (by decide) (q_tn (z := 0) rfl ?_)
            refine q_iast rfl rfl (by decide) rfl (by decide) ?_
            refine q_icc6 (z := 13) rfl rfl rfl rfl rfl ?_
            refine q_goto rfl ?_
            refine q_iload rfl rfl rfl ?_
            refine q_bipush rfl rfl ?_
            refine q_icge rfl rfl (fun c467 => absurd c467 (by decide)) (fun c467 => ?_)
            refine q_aload_n rfl rfl rfl ?_
            refine q_getf rfl rfl (by decide) rfl rfl ?_
            refine q_bipush rfl rfl ?_
            refine q_iload rfl rfl rfl ?_
            refine q_imul rfl rfl (q_tn (z := 40000) rfl ?_)
            refine q_iload rfl rfl rfl ?_
            refine q_iadd rfl rfl (q_tn (z := 40013) rfl ?_)
            refine q_aload_n rfl rfl rfl ?_
            refine q_getf rfl rfl (by decide) rfl rfl ?_
            refine q_iload rfl rfl rfl ?_
            refine q_iald rfl rfl (by decide) rfl (by decide) (q_tn (z := 0) rfl ?_)
            refine q_iast rfl rfl (by decide) rfl (by decide) ?_
            refine q_icc6 (z := 14) rfl rfl rfl rfl rfl ?_
            refine q_goto rfl ?_
            refine q_iload rfl rfl rfl ?_
            refine q_bipush rfl rfl ?_
            refine q_icge rfl rfl (fun c468 => absurd c468 (by decide)) (fun c468 => ?_)
            refine q_aload_n rfl rfl rfl ?_
            refine q_getf rfl rfl (by decide) rfl rfl ?_
            refine q_bipush rfl rfl ?_
            refine q_iload rfl rfl rfl ?_
            refine q_imul rfl rfl (q_tn (z := 40000) rfl ?_)
            refine q_iload rfl rfl rfl ?_
            refine q_iadd rfl rfl (q_tn (z := 40014) rfl ?_)
            refine q_aload_n rfl rfl rfl ?_
            refine q_getf rfl rfl (by decide) rfl rfl ?_
            refine q_iload rfl rfl rfl ?_
            refine q_iald rfl rfl (by decide) rfl (by decide) (q_tn (z := 0) rfl ?_)
            refine q_iast rfl rfl (by decide) rfl (by decide) ?_
            refine q_icc6 (z := 15) rfl rfl rfl rfl rfl ?_
            refine q_goto rfl ?_
            refine q_iload rfl rfl rfl ?_
            refine q_bipush rfl rfl ?_
            refine q_icge rfl rfl (fun c469 => absurd c469 (by decide)) (fun c469 => ?_)
            refine q_aload_n rfl rfl rfl ?_
            refine q_getf rfl rfl (by decide) rfl rfl ?_
            refine q_bipush rfl rfl ?_
            refine q_iload rfl rfl rfl ?_
            refine q_imul rfl rfl (q_tn (z := 40000) rfl ?_)
            refine q_iload rfl rfl rfl ?_
            refine q_iadd rfl rfl (q_tn (z := 40015) rfl ?_)
            refine q_aload_n rfl rfl rfl ?_
            refine q_getf rfl rfl (by decide) rfl rfl ?_
            refine q_iload rfl rfl rfl ?_
            refine q_iald rfl rfl (by decide) rfl (by decide) (q_tn (z := 0) rfl ?_)
            refine q_iast rfl rfl (by decide) rfl (by decide) ?_
            refine q_icc6 (z := 16) rfl rfl rfl rfl rfl ?_
            refine q_goto rfl ?_
            refine q_iload rfl rfl rfl ?_
            refine q_bipush rfl rfl ?_
            refine q_icge rfl rfl (fun c470 => absurd c470 (by decide)) (fun c470 => ?_)
            refine q_aload_n rfl rfl rfl ?_
            refine q_getf rfl rfl (by decide) rfl rfl ?_
            refine q_bipush rfl rfl ?_
            refine q_iload rfl rfl rfl ?_
            refine q_imul rfl rfl (q_tn (z := 40000) rfl ?_)
            refine q_iload rfl rfl rfl ?_
            refine q_iadd rfl rfl (q_tn (z := 40016) rfl ?_)
            refine q_aload_n rfl rfl rfl ?_
            refine q_getf rfl rfl (by decide) rfl rfl ?_
            refine q_iload rfl rfl rfl ?_
            refine q_iald rfl rfl (by decide) rfl (by decide) (q_tn (z := 0) rfl ?_)
            refine q_iast rfl rfl (by decide) rfl (by decide) ?_
            refine q_icc6 (z := 17) rfl rfl rfl rfl rfl ?_
            refine q_goto rfl ?_
            refine q_iload rfl rfl rfl ?_
            refine q_bipush rfl rfl ?_
            refine q_icge rfl rfl (fun c471 => absurd c471 (by decide)) (fun c471 => ?_)
            refine q_aload_n rfl rfl rfl ?_
            refine q_getf rfl rfl (by decide) rfl rfl ?_
            refine q_bipush rfl rfl ?_
            refine q_iload rfl rfl rfl ?_
            refine q_imul rfl rfl (q_tn (z := 40000) rfl ?_)
            refine q_iload rfl rfl rfl ?_
            refine q_iadd rfl rfl (q_tn (z := 40017) rfl ?_)
            refine q_aload_n rfl rfl rfl ?_
            refine q_getf rfl rfl (by decide) rfl rfl ?_
            refine q_iload rfl rfl rfl ?_
            refine q_iald rfl rfl (by decide) rfl (by decide) (q_tn (z := 0) rfl ?_)
            refine q_iast rfl rfl (by decide) rfl (by decide) ?_
            refine q_icc6 (z := 18) rfl rfl rfl rfl rfl ?_
            refine q_goto rfl ?_
            refine q_iload rfl rfl rfl ?_
            refine q_bipush rfl rfl ?_
            refine q_icge rfl rfl (fun c472 => absurd c472 (by decide)) (fun c472 => ?_)
            refine q_aload_n rfl rfl rfl ?_
            refine q_getf rfl rfl (by decide) rfl rfl ?_
            refine q_bipush rfl rfl ?_
            refine q_iload rfl rfl rfl ?_
            refine q_imul rfl rfl (q_tn (z := 40000) rfl ?_)
            refine q_iload rfl rfl rfl ?_
            refine q_iadd rfl rfl (q_tn (z := 40018) rfl ?_)
            refine q_aload_n rfl rfl rfl ?_
            refine q_getf rfl rfl (by decide) rfl rfl ?_
            refine q_iload rfl rfl rfl ?_
            refine q_iald rfl rfl (by decide) rfl (by decide) (q_tn (z := 0) rfl ?_)
            refine q_iast rfl rfl (by decide) rfl (by decide) ?_
            refine q_icc6 (z := 19) rfl rfl rfl rfl rfl ?_
            refine q_goto rfl ?_
            refine q_iload rfl rfl rfl ?_
            refine q_bipush rfl rfl ?_
            refine q_icge rfl rfl (fun c473 => absurd c473 (by decide)) (fun c473 => ?_)
            refine q_aload_n rfl rfl rfl ?_
            refine q_getf rfl rfl (by decide) rfl rfl ?_
            refine q_bipush rfl rfl ?_
            refine q_iload rfl rfl rfl ?_
            refine q_imul rfl rfl (q_tn (z := 40000) rfl ?_)
            refine q_iload rfl rfl rfl ?_
            refine q_iadd rfl rfl (q_tn (z := 40019) rfl ?_)
            refine q_aload_n rfl rfl rfl ?_
            refine q_getf rfl rfl (by decide) rfl rfl ?_
            refine q_iload rfl rfl rfl ?_
            refine q_iald rfl rfl (by decide) rfl (by decide) (q_tn (z := 0) rfl ?_)
            refine q_iast rfl rfl (by decide) rfl (by decide) ?_
            refine q_icc6 (z := 20) rfl rfl rfl rfl rfl ?_
            refine q_goto rfl ?_
            refine q_iload rfl rfl rfl ?_
            refine q_bipush rfl rfl ?_
            refine q_icge rfl rfl (fun c474 => ?_) (fun c474 => absurd (by decide) c474)
            refine q_aload_n rfl rfl rfl ?_
            refine q_getf rfl rfl (by decide) rfl rfl ?_
            refine q_iload rfl rfl rfl ?_
            refine q_iload_n rfl rfl rfl ?_
            refine q_iast rfl rfl (by decide) rfl (by decide) ?_
            refine q_aload_n rfl rfl rfl ?_
            refine q_getf rfl rfl (by decide) rfl rfl ?_
            refine q_iload rfl rfl rfl ?_
            refine q_iload_n rfl rfl rfl ?_
            refine q_iast rfl rfl (by decide) rfl (by decide) ?_
            refine q_aload_n rfl rfl rfl ?_
            refine q_iload_n rfl rfl rfl ?_
            refine q_nV1 rfl rfl (Or.inl rfl) rfl rfl rfl (by decide) rfl ⟨rfl, rfl⟩ rfl ?_
            change PQ _ _ _ mm_X12_rest 0 [.ref 46, .int 1, pm_un, pm_un] [] _ _ 0 0 _
            refine q_bipush rfl rfl ?_
            refine q_ist2n rfl rfl rfl rfl ?_
            refine q_iconst rfl rfl ?_
            refine q_ist3n rfl rfl rfl rfl ?_
            refine q_iload_n rfl rfl rfl ?_
            refine q_bipush rfl rfl ?_
            refine q_icge rfl rfl (fun c475 => absurd c475 (by decide)) (fun c475 => ?_)
            refine q_bipush rfl rfl ?_
            refine q_iload_n rfl rfl rfl ?_
            refine q_imul rfl rfl (q_tn (z := 527) rfl ?_)
            refine q_aload_n rfl rfl rfl ?_
            refine q_getf rfl rfl (by decide) rfl rfl ?_
            refine q_iload_n rfl rfl rfl ?_
            refine q_iald rfl rfl (by decide) rfl (by decide) (q_tn (z := 10) rfl ?_)
            refine q_iadd rfl rfl (q_tn (z := 537) rfl ?_)
            refine q_ist2n rfl rfl rfl rfl ?_
            refine q_icc3 (z := 1) rfl rfl rfl rfl rfl ?_
            refine q_goto rfl ?_
            refine q_iload_n rfl rfl rfl ?_
            refine q_bipush rfl rfl ?_
            refine q_icge rfl rfl (fun c476 => absurd c476 (by decide)) (fun c476 => ?_)
            refine q_bipush rfl rfl ?_
            refine q_iload_n rfl rfl rfl ?_
            refine q_imul rfl rfl (q_tn (z := 16647) rfl ?_)
            refine q_aload_n rfl rfl rfl ?_
            refine q_getf rfl rfl (by decide) rfl rfl ?_
            refine q_iload_n rfl rfl rfl ?_
            refine q_iald rfl rfl (by decide) rfl (by decide) (q_tn (z := 0) rfl ?_)
            refine q_iadd rfl rfl (q_tn (z := 16647) rfl ?_)
            refine q_ist2n rfl rfl rfl rfl ?_
            refine q_icc3 (z := 2) rfl rfl rfl rfl rfl ?_
            refine q_goto rfl ?_
            refine q_iload_n rfl rfl rfl ?_
            refine q_bipush rfl rfl ?_
            refine q_icge rfl rfl (fun c477 => absurd c477 (by decide)) (fun c477 => ?_)
            refine q_bipush rfl rfl ?_
            refine q_iload_n rfl rfl rfl ?_
            refine q_imul rfl rfl (q_tn (z := 516057) rfl ?_)
            refine q_aload_n rfl rfl rfl ?_
            refine q_getf rfl rfl (by decide) rfl rfl ?_
            refine q_iload_n rfl rfl rfl ?_
            refine q_iald rfl rfl (by decide) rfl (by decide) (q_tn (z := 0) rfl ?_)
            refine q_iadd rfl rfl (q_tn (z := 516057) rfl ?_)
            refine q_ist2n rfl rfl rfl rfl ?_
            refine q_icc3 (z := 3) rfl rfl rfl rfl rfl ?_
            refine q_goto rfl ?_
            refine q_iload_n rfl rfl rfl ?_
            refine q_bipush rfl rfl ?_
            refine q_icge rfl rfl (fun c478 => absurd c478 (by decide)) (fun c478 => ?_)
            refine q_bipush rfl rfl ?_
            refine q_iload_n rfl rfl rfl ?_
            refine q_imul rfl rfl (q_tn (z := 15997767) rfl ?_)
            refine q_aload_n rfl rfl rfl ?_
            refine q_getf rfl rfl (by decide) rfl rfl ?_
            refine q_iload_n rfl rfl rfl ?_
            refine q_iald rfl rfl (by decide) rfl (by decide) (q_tn (z := 0) rfl ?_)
            refine q_iadd rfl rfl (q_tn (z := 15997767) rfl ?_)
            refine q_ist2n rfl rfl rfl rfl ?_
            refine q_icc3 (z := 4) rfl rfl rfl rfl rfl ?_
            refine q_goto rfl ?_
            refine q_iload_n rfl rfl rfl ?_
            refine q_bipush rfl rfl ?_
            refine q_icge rfl rfl (fun c479 => absurd c479 (by decide)) (fun c479 => ?_)
            refine q_bipush rfl rfl ?_
            refine q_iload_n rfl rfl rfl ?_
            refine q_imul rfl rfl (q_tn (z := 495930777) rfl ?_)
            refine q_aload_n rfl rfl rfl ?_
            refine q_getf rfl rfl (by decide) rfl rfl ?_
            refine q_iload_n rfl rfl rfl ?_
            refine q_iald rfl rfl (by decide) rfl (by decide) (q_tn (z := 0) rfl ?_)
            refine q_iadd rfl rfl (q_tn (z := 495930777) rfl ?_)
            refine q_ist2n rfl rfl rfl rfl ?_
            refine q_icc3 (z := 5) rfl rfl rfl rfl rfl ?_
            refine q_goto rfl ?_
            refine q_iload_n rfl rfl rfl ?_
            refine q_bipush rfl rfl ?_
            refine q_icge rfl rfl (fun c480 => absurd c480 (by decide)) (fun c480 => ?_)
            refine q_bipush rfl rfl ?_
            refine q_iload_n rfl rfl rfl ?_
            refine q_imul rfl rfl (q_tn (z := (-1806015097)) rfl ?_)
            refine q_aload_n rfl rfl rfl ?_
            refine q_getf rfl rfl (by decide) rfl rfl ?_
            refine q_iload_n rfl rfl rfl ?_
            refine q_iald rfl rfl (by decide) rfl (by decide) (q_tn (z := 0) rfl ?_)
            refine q_iadd rfl rfl (q_tn (z := (-1806015097)) rfl ?_)
            refine q_ist2n rfl rfl rfl rfl ?_
            refine q_icc3 (z := 6) rfl rfl rfl rfl rfl ?_
            refine q_goto rfl ?_
            refine q_iload_n rfl rfl rfl ?_
            refine q_bipush rfl rfl ?_
            refine q_icge rfl rfl (fun c481 => absurd c481 (by decide)) (fun c481 => ?_)
            refine q_bipush rfl rfl ?_
            refine q_iload_n rfl rfl rfl ?_
            refine q_imul rfl rfl (q_tn (z := (-151893159)) rfl ?_)
            refine q_aload_n rfl rfl rfl ?_
            refine q_getf rfl rfl (by decide) rfl rfl ?_
            refine q_iload_n rfl rfl rfl ?_
            refine q_iald rfl rfl (by decide) rfl (by decide) (q_tn (z := 0) rfl ?_)
            refine q_iadd rfl rfl (q_tn (z := (-151893159)) rfl ?_)
            refine q_ist2n rfl rfl rfl rfl ?_
            refine q_icc3 (z := 7) rfl rfl rfl rfl rfl ?_
            refine q_goto rfl ?_
            refine q_iload_n rfl rfl rfl ?_
            refine q_bipush rfl rfl ?_
            refine q_icge rfl rfl (fun c482 => absurd c482 (by decide)) (fun c482 => ?_)
            refine q_bipush rfl rfl ?_
            refine q_iload_n rfl rfl rfl ?_
            refine q_imul rfl rfl (q_tn (z := (-413720633)) rfl ?_)
            refine q_aload_n rfl rfl rfl ?_
            refine q_getf rfl rfl (by decide) rfl rfl ?_
            refine q_iload_n rfl rfl rfl ?_
            refine q_iald rfl rfl (by decide) rfl (by decide) (q_tn (z := 0) rfl ?_)
            refine q_iadd rfl rfl (q_tn (z := (-413720633)) rfl ?_)
            refine q_ist2n rfl rfl rfl rfl ?_
            refine q_icc3 (z := 8) rfl rfl rfl rfl rfl ?_
            refine q_goto rfl ?_
            refine q_iload_n rfl rfl rfl ?_
            refine q_bipush rfl rfl ?_
            refine q_icge rfl rfl (fun c483 => absurd c483 (by decide)) (fun c483 => ?_)
            refine q_bipush rfl rfl ?_
            refine q_iload_n rfl rfl rfl ?_
            refine q_imul rfl rfl (q_tn (z := 59562265) rfl ?_)
            refine q_aload_n rfl rfl rfl ?_
            refine q_getf rfl rfl (by decide) rfl rfl ?_
            refine q_iload_n rfl rfl rfl ?_
            refine q_iald rfl rfl (by decide) rfl (by decide) (q_tn (z := 0) rfl ?_)
            refine q_iadd rfl rfl (q_tn (z := 59562265) rfl ?_)
            refine q_ist2n rfl rfl rfl rfl ?_
            refine q_icc3 (z := 9) rfl rfl rfl rfl rfl ?_
            refine q_goto rfl ?_
            refine q_iload_n rfl rfl rfl ?_
            refine q_bipush rfl rfl ?_
            refine q_icge rfl rfl (fun c484 => absurd c484 (by decide)) (fun c484 => ?_)
            refine q_bipush rfl rfl ?_
            refine q_iload_n rfl rfl rfl ?_
            refine q_imul rfl rfl (q_tn (z := 1846430215) rfl ?_)
            refine q_aload_n rfl rfl rfl ?_
            refine q_getf rfl rfl (by decide) rfl rfl ?_
            refine q_iload_n rfl rfl rfl ?_
            refine q_iald rfl rfl (by decide) rfl (by decide) (q_tn (z := 0) rfl ?_)
            refine q_iadd rfl rfl (q_tn (z := 1846430215) rfl ?_)
            refine q_ist2n rfl rfl rfl rfl ?_
            refine q_icc3 (z := 10) rfl rfl rfl rfl rfl ?_
            refine q_goto rfl ?_
            refine q_iload_n rfl rfl rfl ?_
            refine q_bipush rfl rfl ?_
            refine q_icge rfl rfl (fun c485 => absurd c485 (by decide)) (fun c485 => ?_)
            refine q_bipush rfl rfl ?_
            refine q_iload_n rfl rfl rfl ?_
            refine q_imul rfl rfl (q_tn (z := 1404761817) rfl ?_)
            refine q_aload_n rfl rfl rfl ?_
            refine q_getf rfl rfl (by decide) rfl rfl ?_
            refine q_iload_n rfl rfl rfl ?_
            refine q_iald rfl rfl (by decide) rfl (by decide) (q_tn (z := 0) rfl ?_)
            refine q_iadd rfl rfl (q_tn (z := 1404761817) rfl ?_)
            refine q_ist2n rfl rfl rfl rfl ?_
            refine q_icc3 (z := 11) rfl rfl rfl rfl rfl ?_
            refine q_goto rfl ?_
            refine q_iload_n rfl rfl rfl ?_
            refine q_bipush rfl rfl ?_
            refine q_icge rfl rfl (fun c486 => absurd c486 (by decide)) (fun c486 => ?_)
            refine q_bipush rfl rfl ?_
            refine q_iload_n rfl rfl rfl ?_
            refine q_imul rfl rfl (q_tn (z := 597943367) rfl ?_)
            refine q_aload_n rfl rfl rfl ?_
            refine q_getf rfl rfl (by decide) rfl rfl ?_
            refine q_iload_n rfl rfl rfl ?_
            refine q_iald rfl rfl (by decide) rfl (by decide) (q_tn (z := 0) rfl ?_)
            refine q_iadd rfl rfl (q_tn (z := 597943367) rfl ?_)
            refine q_ist2n rfl rfl rfl rfl ?_
            refine q_icc3 (z := 12) rfl rfl rfl rfl rfl ?_
            refine q_goto rfl ?_
            refine q_iload_n rfl rfl rfl ?_
            refine q_bipush rfl rfl ?_
            refine q_icge rfl rfl (fun c487 => absurd c487 (by decide)) (fun c487 => ?_)
            refine q_bipush rfl rfl ?_
            refine q_iload_n rfl rfl rfl ?_
            refine q_imul rfl rfl (q_tn (z := 1356375193) rfl ?_)
            refine q_aload_n rfl rfl rfl ?_
            refine q_getf rfl rfl (by decide) rfl rfl ?_
            refine q_iload_n rfl rfl rfl ?_
            refine q_iald rfl rfl (by decide) rfl (by decide) (q_tn (z := 0) rfl ?_)
            refine q_iadd rfl rfl (q_tn (z := 1356375193) rfl ?_)
            refine q_ist2n rfl rfl rfl rfl ?_
            refine q_icc3 (z := 13) rfl rfl rfl rfl rfl ?_
            refine q_goto rfl ?_
            refine q_iload_n rfl rfl rfl ?_
            refine q_bipush rfl rfl ?_
            refine q_icge rfl rfl (fun c488 => absurd c488 (by decide)) (fun c488 => ?_)
            refine q_bipush rfl rfl ?_
            refine q_iload_n rfl rfl rfl ?_
            refine q_imul rfl rfl (q_tn (z := (-902041977)) rfl ?_)
            refine q_aload_n rfl rfl rfl ?_
            refine q_getf rfl rfl (by decide) rfl rfl ?_
            refine q_iload_n rfl rfl rfl ?_
            refine q_iald rfl rfl (by decide) rfl (by decide) (q_tn (z := 0) rfl ?_)
            refine q_iadd rfl rfl (q_tn (z := (-902041977)) rfl ?_)
            refine q_ist2n rfl rfl rfl rfl ?_
            refine q_icc3 (z := 14) rfl rfl rfl rfl rfl ?_
            refine q_goto rfl ?_
            refine q_iload_n rfl rfl rfl ?_
            refine q_bipush rfl rfl ?_
            refine q_icge rfl rfl (fun c489 => absurd c489 (by decide)) (fun c489 => ?_)
            refine q_bipush rfl rfl ?_
            refine q_iload_n rfl rfl rfl ?_
            refine q_imul rfl rfl (q_tn (z := 2101469785) rfl ?_)
            refine q_aload_n rfl rfl rfl ?_
            refine q_getf rfl rfl (by decide) rfl rfl ?_
            refine q_iload_n rfl rfl rfl ?_
            refine q_iald rfl rfl (by decide) rfl (by decide) (q_tn (z := 0) rfl ?_)
            refine q_iadd rfl rfl (q_tn (z := 2101469785) rfl ?_)
            refine q_ist2n rfl rfl rfl rfl ?_
            refine q_icc3 (z := 15) rfl rfl rfl rfl rfl ?_
            refine q_goto rfl ?_
            refine q_iload_n rfl rfl rfl ?_
            refine q_bipush rfl rfl ?_
            refine q_icge rfl rfl (fun c490 => absurd c490 (by decide)) (fun c490 => ?_)
            refine q_bipush rfl rfl ?_
            refine q_iload_n rfl rfl rfl ?_
            refine q_imul rfl rfl (q_tn (z := 721053895) rfl ?_)
            refine q_aload_n rfl rfl rfl ?_
            refine q_getf rfl rfl (by decide) rfl rfl ?_
            refine q_iload_n rfl rfl rfl ?_
            refine q_iald rfl rfl (by decide) rfl (by decide) (q_tn (z := 0) rfl ?_)
            refine q_iadd rfl rfl (q_tn (z := 721053895) rfl ?_)
            refine q_ist2n rfl rfl rfl rfl ?_
            refine q_icc3 (z := 16) rfl rfl rfl rfl rfl ?_
            refine q_goto rfl ?_
            refine q_iload_n rfl rfl rfl ?_
            refine q_bipush rfl rfl ?_
            refine q_icge rfl rfl (fun c491 => absurd c491 (by decide)) (fun c491 => ?_)
            refine q_bipush rfl rfl ?_
            refine q_iload_n rfl rfl rfl ?_
            refine q_imul rfl rfl (q_tn (z := 877834265) rfl ?_)
            refine q_aload_n rfl rfl rfl ?_
            refine q_getf rfl rfl (by decide) rfl rfl ?_
            refine q_iload_n rfl rfl rfl ?_
            refine q_iald rfl rfl (by decide) rfl (by decide) (q_tn (z := 0) rfl ?_)
            refine q_iadd rfl rfl (q_tn (z := 877834265) rfl ?_)
            refine q_ist2n rfl rfl rfl rfl ?_
            refine q_icc3 (z := 17) rfl rfl rfl rfl rfl ?_
            refine q_goto rfl ?_
            refine q_iload_n rfl rfl rfl ?_
            refine q_bipush rfl rfl ?_
            refine q_icge rfl rfl (fun c492 => absurd c492 (by decide)) (fun c492 => ?_)
            refine q_bipush rfl rfl ?_
            refine q_iload_n rfl rfl rfl ?_
            refine q_imul rfl rfl (q_tn (z := 1443058439) rfl ?_)
            refine q_aload_n rfl rfl rfl ?_
            refine q_getf rfl rfl (by decide) rfl rfl ?_
            refine q_iload_n rfl rfl rfl ?_
            refine q_iald rfl rfl (by decide) rfl (by decide) (q_tn (z := 0) rfl ?_)
            refine q_iadd rfl rfl (q_tn (z := 1443058439) rfl ?_)
            refine q_ist2n rfl rfl rfl rfl ?_
            refine q_icc3 (z := 18) rfl rfl rfl rfl rfl ?_
            refine q_goto rfl ?_
            refine q_iload_n rfl rfl rfl ?_
            refine q_bipush rfl rfl ?_
            refine q_icge rfl rfl (fun c493 => absurd c493 (by decide)) (fun c493 => ?_)
            refine q_bipush rfl rfl ?_
            refine q_iload_n rfl rfl rfl ?_
            refine q_imul rfl rfl (q_tn (z := 1785138649) rfl ?_)
            refine q_aload_n rfl rfl rfl ?_
            refine q_getf rfl rfl (by decide) rfl rfl ?_
            refine q_iload_n rfl rfl rfl ?_
            refine q_iald rfl rfl (by decide) rfl (by decide) (q_tn (z := 0) rfl ?_)
            refine q_iadd rfl rfl (q_tn (z := 1785138649) rfl ?_)
            refine q_ist2n rfl rfl rfl rfl ?_
            refine q_icc3 (z := 19) rfl rfl rfl rfl rfl ?_
            refine q_goto rfl ?_
            refine q_iload_n rfl rfl rfl ?_
            refine q_bipush rfl rfl ?_
            refine q_icge rfl rfl (fun c494 => absurd c494 (by decide)) (fun c494 => ?_)
            refine q_bipush rfl rfl ?_
            refine q_iload_n rfl rfl rfl ?_
            refine q_imul rfl rfl (q_tn (z := (-495276729)) rfl ?_)
            refine q_aload_n rfl rfl rfl ?_
            refine q_getf rfl rfl (by decide) rfl rfl ?_
            refine q_iload_n rfl rfl rfl ?_
            refine q_iald rfl rfl (by decide) rfl (by decide) (q_tn (z := 0) rfl ?_)
            refine q_iadd rfl rfl (q_tn (z := (-495276729)) rfl ?_)
            refine q_ist2n rfl rfl rfl rfl ?_
            refine q_icc3 (z := 20) rfl rfl rfl rfl rfl ?_
            refine q_goto rfl ?_
            refine q_iload_n rfl rfl rfl ?_
            refine q_bipush rfl rfl ?_
            refine q_icge rfl rfl (fun c495 => ?_) (fun c495 => absurd (by decide) c495)
            refine q_sipush rfl rfl ?_
            refine q_iload_n rfl rfl rfl ?_
            refine q_imul rfl rfl (q_tn (z := 8192) rfl ?_)
            refine q_iload_n rfl rfl rfl ?_
            refine q_iload_n rfl rfl rfl ?_
            refine q_bipush rfl rfl ?_
            refine q_iushr rfl rfl (q_tn (z := 463829) rfl ?_)
            refine q_ixor rfl rfl (q_tn (z := (-495075694)) rfl ?_)
            refine q_sipush rfl rfl ?_
            refine q_irem rfl rfl (by decide) (q_tn (z := (-366)) rfl ?_)
            refine q_iload_n rfl rfl rfl ?_
            refine q_iload_n rfl rfl rfl ?_
            refine q_bipush rfl rfl ?_
            refine q_iushr rfl rfl (q_tn (z := 463829) rfl ?_)
            refine q_ixor rfl rfl (q_tn (z := (-495075694)) rfl ?_)
            refine q_sipush rfl rfl ?_
            refine q_irem rfl rfl (by decide) (q_tn (z := (-366)) rfl ?_)
            refine q_ifge rfl rfl (fun c496 => absurd c496 (by decide)) (fun c496 => ?_)
            refine q_iconst rfl rfl ?_
            refine q_goto rfl ?_
            refine q_imul rfl rfl (q_tn (z := 366) rfl ?_)
            refine q_iadd rfl rfl (q_tn (z := 8558) rfl ?_)
            refine q_iret rfl rfl trivial ?_
            refine ⟨_, rfl, ?_⟩
            refine q_ist6 rfl rfl rfl rfl ?_
            refine q_aload_n rfl rfl rfl ?_
            refine q_getf rfl rfl (by decide) rfl rfl ?_
            refine q_iload rfl rfl rfl ?_
            refine q_aload_n rfl rfl rfl ?_
            refine q_getf rfl rfl (by decide) rfl rfl ?_
            refine q_iload rfl rfl rfl ?_
            refine q_iald rfl rfl (by decide) rfl (by decide) (q_tn (z := (-1)) rfl ?_)
            refine q_iast rfl rfl (by decide) rfl (by decide) ?_
            refine q_aload_n rfl rfl rfl ?_
            refine q_getf rfl rfl (by decide) rfl rfl ?_
            refine q_iload rfl rfl rfl ?_
            refine q_iload rfl rfl rfl ?_
            refine q_iast rfl rfl (by decide) rfl (by decide) ?_
            refine q_aload_n rfl rfl rfl ?_
            refine q_getf rfl rfl (by decide) rfl rfl ?_
            refine q_iload_n rfl rfl rfl ?_
            refine q_dup2 rfl rfl ?_
            refine q_iald rfl rfl (by decide) rfl (by decide) (q_tn (z := 0) rfl ?_)
            refine q_iconst rfl rfl ?_
            refine q_iadd rfl rfl (q_tn (z := 1) rfl ?_)
            refine q_iast rfl rfl (by decide) rfl (by decide) ?_
            refine q_iload rfl rfl rfl ?_
            refine q_iret rfl rfl trivial ?_
            refine ⟨_, rfl, ?_⟩
            refine q_ist3n rfl rfl rfl rfl ?_
            refine q_iconst rfl rfl ?_
            refine q_ist4 rfl rfl rfl rfl ?_
            refine q_iload rfl rfl rfl ?_
            refine q_aload_n rfl rfl rfl ?_
            refine q_getf rfl rfl (by decide) rfl rfl ?_
            refine q_iload_n rfl rfl rfl ?_
            refine q_iald rfl rfl (by decide) rfl (by decide) (q_tn (z := 1) rfl ?_)
            refine q_icge rfl rfl (fun c497 => absurd c497 (by decide)) (fun c497 => ?_)
            refine q_iconst rfl rfl ?_
            refine q_ist5 rfl rfl rfl rfl ?_
            refine q_iload rfl rfl rfl ?_
            refine q_iconst rfl rfl ?_
            refine q_icge rfl rfl (fun c498 => absurd c498 (by decide)) (fun c498 => ?_)
            refine q_iconst rfl rfl ?_
            refine q_sipush rfl rfl ?_
            refine q_iload_n rfl rfl rfl ?_
            refine q_imul rfl rfl (q_tn (z := 2000) rfl ?_)
            refine q_iload rfl rfl rfl ?_
            refine q_iadd rfl rfl (q_tn (z := 2000) rfl ?_)
            refine q_imul rfl rfl (q_tn (z := 6000) rfl ?_)
            refine q_iload rfl rfl rfl ?_
            refine q_iadd rfl rfl (q_tn (z := 6000) rfl ?_)
            refine q_ist6 rfl rfl rfl rfl ?_
            refine q_aload_n rfl rfl rfl ?_
            refine q_getf rfl rfl (by decide) rfl rfl ?_
            refine q_iload rfl rfl rfl ?_
            refine q_iconst rfl rfl ?_
            refine q_iast rfl rfl (by decide) rfl (by decide) ?_
            refine q_aload_n rfl rfl rfl ?_
            refine q_iload_n rfl rfl rfl ?_
            refine q_iload rfl rfl rfl ?_
            refine q_cV2v rfl rfl (Or.inl rfl) rfl rfl rfl (by decide) rfl ⟨rfl, rfl⟩ rfl (fun K' hK' => l_sa (R := 1) (by decide) rfl (by decide) rfl rfl rfl rfl rfl hK') ?_
            refine q_iload rfl rfl rfl ?_
            refine q_aload_n rfl rfl rfl ?_
            refine q_getf rfl rfl (by decide) rfl rfl ?_
            refine q_icge rfl rfl (fun c499 => absurd c499 (by decide)) (fun c499 => ?_)
            refine q_aload_n rfl rfl rfl ?_
            refine q_iload rfl rfl rfl ?_
            refine q_iload_n rfl rfl rfl ?_
            refine q_nV2 rfl rfl (Or.inl rfl) rfl rfl rfl (by decide) rfl ⟨rfl, rfl⟩ rfl ?_
            change PQ _ _ _ mm_X12_maySteps 0 [.ref 46, .int 0, .int 3, pm_un, pm_un, pm_un] [] _ _ 0 0 _
            refine q_aload_n rfl rfl rfl ?_
            refine q_iload_n rfl rfl rfl ?_
            refine q_iload_n rfl rfl rfl ?_
            refine q_nV2 rfl rfl (Or.inl rfl) rfl rfl rfl (by decide) rfl ⟨rfl, rfl⟩ rfl ?_
            change PQ _ _ _ mm_X12_canStep 0 [.ref 46, .int 0, .int 3, pm_un] [] _ _ 0 0 _
            refine q_aload_n rfl rfl rfl ?_
            refine q_iload_n rfl rfl rfl ?_
            refine q_nV1 rfl rfl (Or.inl rfl) rfl rfl rfl (by decide) rfl ⟨rfl, rfl⟩ rfl ?_
            change PQ _ _ _ mm_X12_isOver 0 [.ref 46, .int 0] [] _ _ 0 0 _
            refine q_aload_n rfl rfl rfl ?_
            refine q_getf rfl rfl (by decide) rfl rfl ?_
            refine q_iconst rfl rfl ?_
            refine q_iload_n rfl rfl rfl ?_
            refine q_imul rfl rfl (q_tn (z := 0) rfl ?_)
            refine q_iald rfl rfl (by decide) rfl (by decide) (q_tn (z := 10) rfl ?_)
            refine q_bipush rfl rfl ?_
            refine q_iclt rfl rfl (fun c500 => absurd c500 (by decide)) (fun c500 => ?_)
            refine q_iconst rfl rfl ?_
            refine q_goto rfl ?_
            refine q_iret rfl rfl rfl ?_
            refine ⟨_, rfl, ?_⟩
            refine q_ifeq rfl rfl (fun c501 => absurd c501 (by decide)) (fun c501 => ?_)
            refine q_iconst rfl rfl ?_
            refine q_iret rfl rfl rfl ?_
            refine ⟨_, rfl, ?_⟩
            refine q_ifne rfl rfl (fun c502 => ?_) (fun c502 => absurd (by decide) c502)
            refine q_iconst rfl rfl ?_
            refine q_iret rfl rfl rfl ?_
            refine ⟨_, rfl, ?_⟩
            refine q_ifne rfl rfl (fun c503 => ?_) (fun c503 => absurd (by decide) c503)
            refine q_goto rfl ?_
            refine q_icc5 (z := 1) rfl rfl rfl rfl rfl ?_
            refine q_goto rfl ?_
            refine q_iload rfl rfl rfl ?_
            refine q_iconst rfl rfl ?_
            refine q_icge rfl rfl (fun c504 => absurd c504 (by decide)) (fun c504 => ?_)
            refine q_iconst rfl rfl ?_
            refine q_sipush rfl rfl ?_
            refine q_iload_n rfl rfl rfl ?_
            refine q_imul rfl rfl (q_tn (z := 2000) rfl ?_)
            refine q_iload rfl rfl rfl ?_
            refine q_iadd rfl rfl (q_tn (z := 2000) rfl ?_)
            refine q_imul rfl rfl (q_tn (z := 6000) rfl ?_)
            refine q_iload rfl rfl rfl ?_
            refine q_iadd rfl rfl (q_tn (z := 6001) rfl ?_)
            refine q_ist6 rfl rfl rfl rfl ?_
            refine q_aload_n rfl rfl rfl ?_
            refine q_getf rfl rfl (by decide) rfl rfl ?_
            refine q_iload rfl rfl rfl ?_
            refine q_iconst rfl rfl ?_
            refine q_iast rfl rfl (by decide) rfl (by decide) ?_
            refine q_aload_n rfl rfl rfl ?_
            refine q_iload_n rfl rfl rfl ?_
            refine q_iload rfl rfl rfl ?_
            refine q_cV2v rfl rfl (Or.inl rfl) rfl rfl rfl (by decide) rfl ⟨rfl, rfl⟩ rfl (fun K' hK' => l_sa (R := 1) (by decide) rfl (by decide) rfl rfl rfl rfl rfl hK') ?_
            refine q_iload rfl rfl rfl ?_
            refine q_aload_n rfl rfl rfl ?_
            refine q_getf rfl rfl (by decide) rfl rfl ?_
            refine q_icge rfl rfl (fun c505 => ?_) (fun c505 => absurd (by decide) c505)
            refine q_icc5 (z := 2) rfl rfl rfl rfl rfl ?_
            refine q_goto rfl ?_
            refine q_iload rfl rfl rfl ?_
            refine q_iconst rfl rfl ?_
            refine q_icge rfl rfl (fun c506 => absurd c506 (by decide)) (fun c506 => ?_)
            refine q_iconst rfl rfl ?_
            refine q_sipush rfl rfl ?_
            refine q_iload_n rfl rfl rfl ?_
            refine q_imul rfl rfl (q_tn (z := 2000) rfl ?_)
            refine q_iload rfl rfl rfl ?_
            refine q_iadd rfl rfl (q_tn (z := 2000) rfl ?_)
            refine q_imul rfl rfl (q_tn (z := 6000) rfl ?_)
            refine q_iload rfl rfl rfl ?_
            refine q_iadd rfl rfl (q_tn (z := 6002) rfl ?_)
            refine q_ist6 rfl rfl rfl rfl ?_
            refine q_aload_n rfl rfl rfl ?_
            refine q_getf rfl rfl (by decide) rfl rfl ?_
            refine q_iload rfl rfl rfl ?_
            refine q_iconst rfl rfl ?_
            refine q_iast rfl rfl (by decide) rfl (by decide) ?_
            refine q_aload_n rfl rfl rfl ?_
            refine q_iload_n rfl rfl rfl ?_
            refine q_iload rfl rfl rfl ?_
            refine q_cV2v rfl rfl (Or.inl rfl) rfl rfl rfl (by decide) rfl ⟨rfl, rfl⟩ rfl (fun K' hK' => l_sa (R := 1) (by decide) rfl (by decide) rfl rfl rfl rfl rfl hK') ?_
            refine q_iload rfl rfl rfl ?_
            refine q_aload_n rfl rfl rfl ?_
            refine q_getf rfl rfl (by decide) rfl rfl ?_
            refine q_icge rfl rfl (fun c507 => ?_) (fun c507 => absurd (by decide) c507)
            refine q_icc5 (z := 3) rfl rfl rfl rfl rfl ?_
            refine q_goto rfl ?_
            refine q_iload rfl rfl rfl ?_
            refine q_iconst rfl rfl ?_
            refine q_icge rfl rfl (fun c508 => ?_) (fun c508 => absurd (by decide) c508)
            refine q_icc4 (z := 1) rfl rfl rfl rfl rfl ?_
            refine q_goto rfl ?_
            refine q_iload rfl rfl rfl ?_
            refine q_aload_n rfl rfl rfl ?_
            refine q_getf rfl rfl (by decide) rfl rfl ?_
            refine q_iload_n rfl rfl rfl ?_
            refine q_iald rfl rfl (by decide) rfl (by decide) (q_tn (z := 1) rfl ?_)
            refine q_icge rfl rfl (fun c509 => ?_) (fun c509 => absurd (by decide) c509)
            refine q_iconst rfl rfl ?_
            refine q_iret rfl rfl rfl ?_
            refine ⟨_, rfl, ?_⟩
            refine q_ifeq rfl rfl (fun c510 => absurd c510 (by decide)) (fun c510 => ?_)
            refine q_iconst rfl rfl ?_
            refine q_goto rfl ?_
            refine q_iast rfl rfl (by decide) rfl (by decide) ?_
            refine q_iload_n rfl rfl rfl ?_
            refine q_ifne rfl rfl (fun c511 => absurd c511 (by decide)) (fun c511 => ?_)
            refine q_aload_n rfl rfl rfl ?_
            refine q_getf rfl rfl (by decide) rfl rfl ?_
            refine q_iload_n rfl rfl rfl ?_
            refine q_aload_n rfl rfl rfl ?_
            refine q_getf rfl rfl (by decide) rfl rfl ?_
            refine q_iload_n rfl rfl rfl ?_
            refine q_iald rfl rfl (by decide) rfl (by decide) (q_tn (z := 1) rfl ?_)
            refine q_iast rfl rfl (by decide) rfl (by decide) ?_
            refine q_iconst rfl rfl ?_
            refine q_ist3n rfl rfl rfl rfl ?_
            refine q_iload_n rfl rfl rfl ?_
            refine q_iconst rfl rfl ?_
            refine q_icge rfl rfl (fun c512 => absurd c512 (by decide)) (fun c512 => ?_)
            refine q_aload_n rfl rfl rfl ?_
            refine q_getf rfl rfl (by decide) rfl rfl ?_
            refine q_iconst rfl rfl ?_
            refine q_iload_n rfl rfl rfl ?_
            refine q_imul rfl rfl (q_tn (z := 12) rfl ?_)
            refine q_iload_n rfl rfl rfl ?_
            refine q_iadd rfl rfl (q_tn (z := 12) rfl ?_)
            refine q_iconst rfl rfl ?_
            refine q_iast rfl rfl (by decide) rfl (by decide) ?_
            refine q_icc3 (z := 1) rfl rfl rfl rfl rfl ?_
            refine q_goto rfl ?_
            refine q_iload_n rfl rfl rfl ?_
            refine q_iconst rfl rfl ?_
            refine q_icge rfl rfl (fun c513 => absurd c513 (by decide)) (fun c513 => ?_)
            refine q_aload_n rfl rfl rfl ?_
            refine q_getf rfl rfl (by decide) rfl rfl ?_
            refine q_iconst rfl rfl ?_
            refine q_iload_n rfl rfl rfl ?_
            refine q_imul rfl rfl (q_tn (z := 12) rfl ?_)
            refine q_iload_n rfl rfl rfl ?_
            refine q_iadd rfl rfl (q_tn (z := 13) rfl ?_)
            refine q_iconst rfl rfl ?_
            refine q_iast rfl rfl (by decide) rfl (by decide) ?_
            refine q_icc3 (z := 2) rfl rfl rfl rfl rfl ?_
            refine q_goto rfl ?_
            refine q_iload_n rfl rfl rfl ?_
            refine q_iconst rfl rfl ?_
            refine q_icge rfl rfl (fun c514 => absurd c514 (by decide)) (fun c514 => ?_)
            refine q_aload_n rfl rfl rfl ?_
            refine q_getf rfl rfl (by decide) rfl rfl ?_
            refine q_iconst rfl rfl ?_
            refine q_iload_n rfl rfl rfl ?_
            refine q_imul rfl rfl (q_tn (z := 12) rfl ?_)
            refine q_iload_n rfl rfl rfl ?_
            refine q_iadd rfl rfl (q_tn (z := 14) rfl ?_)
            refine q_iconst rfl rfl ?_
            refine q_iast rfl rfl (by decide) rfl (by decide) ?_
            refine q_icc3 (z := 3) rfl rfl rfl rfl rfl ?_
            refine q_goto rfl ?_
            refine q_iload_n rfl rfl rfl ?_
            refine q_iconst rfl rfl ?_
            refine q_icge rfl rfl (fun c515 => absurd c515 (by decide)) (fun c515 => ?_)
            refine q_aload_n rfl rfl rfl ?_
            refine q_getf rfl rfl (by decide) rfl rfl ?_
            refine q_iconst rfl rfl ?_
            refine q_iload_n rfl rfl rfl ?_
            refine q_imul rfl rfl (q_tn (z := 12) rfl ?_)
            refine q_iload_n rfl rfl rfl ?_
            refine q_iadd rfl rfl (q_tn (z := 15) rfl ?_)
            refine q_iconst rfl rfl ?_
            refine q_iast rfl rfl (by decide) rfl (by decide) ?_
            refine q_icc3 (z := 4) rfl rfl rfl rfl rfl ?_
            refine q_goto rfl ?_
            refine q_iload_n rfl rfl rfl ?_
            refine q_iconst rfl rfl ?_
            refine q_icge rfl rfl (fun c516 => ?_) (fun c516 => absurd (by decide) c516)
            refine q_iconst rfl rfl ?_
            refine q_ist3n rfl rfl rfl rfl ?_
            refine q_iload_n rfl rfl rfl ?_
            refine q_aload_n rfl rfl rfl ?_
            refine q_getf rfl rfl (by decide) rfl rfl ?_
            refine q_iload_n rfl rfl rfl ?_
            refine q_iald rfl rfl (by decide) rfl (by decide) (q_tn (z := 1) rfl ?_)
            refine q_icge rfl rfl (fun c517 => absurd c517 (by decide)) (fun c517 => ?_)
            refine q_aload_n rfl rfl rfl ?_
            refine q_iload_n rfl rfl rfl ?_
            refine q_iload_n rfl rfl rfl ?_
            refine q_cV2v rfl rfl (Or.inl rfl) rfl rfl rfl (by decide) rfl ⟨rfl, rfl⟩ rfl (fun K' hK' => l_sa (R := 1) (by decide) rfl (by decide) rfl rfl rfl rfl rfl hK') ?_
            refine q_aload_n rfl rfl rfl ?_
            refine q_nV0 rfl rfl (Or.inl rfl) rfl rfl rfl (by decide) rfl ⟨rfl, rfl⟩ rfl ?_
            change PQ _ _ _ mm_X12_isEnd 0 [.ref 46, pm_un, pm_un] [] _ _ 0 0 _
            refine q_iconst rfl rfl ?_
            refine q_ist1n rfl rfl rfl rfl ?_
            refine q_iconst rfl rfl ?_
            refine q_ist2n rfl rfl rfl rfl ?_
            refine q_iload_n rfl rfl rfl ?_
            refine q_aload_n rfl rfl rfl ?_
            refine q_getf rfl rfl (by decide) rfl rfl ?_
            refine q_icge rfl rfl (fun c518 => absurd c518 (by decide)) (fun c518 => ?_)
            refine q_iload_n rfl rfl rfl ?_
            refine q_ifeq rfl rfl (fun c519 => absurd c519 (by decide)) (fun c519 => ?_)
            refine q_aload_n rfl rfl rfl ?_
            refine q_iload_n rfl rfl rfl ?_
            refine q_nV1 rfl rfl (Or.inl rfl) rfl rfl rfl (by decide) rfl ⟨rfl, rfl⟩ rfl ?_
            change PQ _ _ _ mm_X12_isOver 0 [.ref 46, .int 0] [] _ _ 0 0 _
            refine q_aload_n rfl rfl rfl ?_
            refine q_getf rfl rfl (by decide) rfl rfl ?_
            refine q_iconst rfl rfl ?_
            refine q_iload_n rfl rfl rfl ?_
            refine q_imul rfl rfl (q_tn (z := 0) rfl ?_)
            refine q_iald rfl rfl (by decide) rfl (by decide) (q_tn (z := 10) rfl ?_)
            refine q_bipush rfl rfl ?_
            refine q_iclt rfl rfl (fun c520 => absurd c520 (by decide)) (fun c520 => ?_)
            refine q_iconst rfl rfl ?_
            refine q_goto rfl ?_
            refine q_iret rfl rfl rfl ?_
            refine ⟨_, rfl, ?_⟩
            refine q_ifeq rfl rfl (fun c521 => absurd c521 (by decide)) (fun c521 => ?_)
            refine q_iconst rfl rfl ?_
            refine q_goto rfl ?_
            refine q_ist1n rfl rfl rfl rfl ?_
            refine q_icc2 (z := 1) rfl rfl rfl rfl rfl ?_
            refine q_goto rfl ?_
            refine q_iload_n rfl rfl rfl ?_
            refine q_aload_n rfl rfl rfl ?_
            refine q_getf rfl rfl (by decide) rfl rfl ?_
            refine q_icge rfl rfl (fun c522 => ?_) (fun c522 => absurd (by decide) c522)
            refine q_iload_n rfl rfl rfl ?_
            refine q_iret rfl rfl rfl ?_
            refine ⟨_, rfl, ?_⟩
            refine q_ifne rfl rfl (fun c523 => absurd c523 (by decide)) (fun c523 => ?_)
            refine q_iconst rfl rfl ?_
            refine q_ist4 rfl rfl rfl rfl ?_
            refine q_iload rfl rfl rfl ?_
            refine q_iconst rfl rfl ?_
            refine q_icge rfl rfl (fun c524 => absurd c524 (by decide)) (fun c524 => ?_)
            refine q_aload_n rfl rfl rfl ?_
            refine q_getf rfl rfl (by decide) rfl rfl ?_
            refine q_iconst rfl rfl ?_
            refine q_iload_n rfl rfl rfl ?_
            refine q_imul rfl rfl (q_tn (z := 12) rfl ?_)
            refine q_iload rfl rfl rfl ?_
            refine q_iadd rfl rfl (q_tn (z := 12) rfl ?_)
            refine q_dup2 rfl rfl ?_
            refine q_iald rfl rfl (by decide) rfl (by decide) (q_tn (z := 0) rfl ?_)
            refine q_iconst rfl rfl ?_
            refine q_aload_n rfl rfl rfl ?_
            refine q_getf rfl rfl (by decide) rfl rfl ?_
            refine q_bipush rfl rfl ?_
            refine q_iload rfl rfl rfl ?_
            refine q_iadd rfl rfl (q_tn (z := 12) rfl ?_)
            refine q_iald rfl rfl (by decide) rfl (by decide) (q_tn (z := 0) rfl ?_)
            refine q_ishl rfl rfl (q_tn (z := 1) rfl ?_)
            refine q_ior rfl rfl (q_tn (z := 1) rfl ?_)
            refine q_iast rfl rfl (by decide) rfl (by decide) ?_
            refine q_icc4 (z := 1) rfl rfl rfl rfl rfl ?_
            refine q_goto rfl ?_
            refine q_iload rfl rfl rfl ?_
            refine q_iconst rfl rfl ?_
            refine q_icge rfl rfl (fun c525 => absurd c525 (by decide)) (fun c525 => ?_)
            refine q_aload_n rfl rfl rfl ?_
            refine q_getf rfl rfl (by decide) rfl rfl ?_
            refine q_iconst rfl rfl ?_
            refine q_iload_n rfl rfl rfl ?_
            refine q_imul rfl rfl (q_tn (z := 12) rfl ?_)
            refine q_iload rfl rfl rfl ?_
            refine q_iadd rfl rfl (q_tn (z := 13) rfl ?_)
            refine q_dup2 rfl rfl ?_
            refine q_iald rfl rfl (by decide) rfl (by decide) (q_tn (z := 0) rfl ?_)
            refine q_iconst rfl rfl ?_
            refine q_aload_n rfl rfl rfl ?_
            refine q_getf rfl rfl (by decide) rfl rfl ?_
            refine q_bipush rfl rfl ?_
            refine q_iload rfl rfl rfl ?_
            refine q_iadd rfl rfl (q_tn (z := 13) rfl ?_)
            refine q_iald rfl rfl (by decide) rfl (by decide) (q_tn (z := 0) rfl ?_)
            refine q_ishl rfl rfl (q_tn (z := 1) rfl ?_)
            refine q_ior rfl rfl (q_tn (z := 1) rfl ?_)
            refine q_iast rfl rfl (by decide) rfl (by decide) ?_
            refine q_icc4 (z := 2) rfl rfl rfl rfl rfl ?_
            refine q_goto rfl ?_
            refine q_iload rfl rfl rfl ?_
            refine q_iconst rfl rfl ?_
            refine q_icge rfl rfl (fun c526 => absurd c526 (by decide)) (fun c526 => ?_)
            refine q_aload_n rfl rfl rfl ?_
            refine q_getf rfl rfl (by decide) rfl rfl ?_
            refine q_iconst rfl rfl ?_
            refine q_iload_n rfl rfl rfl ?_
            refine q_imul rfl rfl (q_tn (z := 12) rfl ?_)
            refine q_iload rfl rfl rfl ?_
            refine q_iadd rfl rfl (q_tn (z := 14) rfl ?_)
            refine q_dup2 rfl rfl ?_
            refine q_iald rfl rfl (by decide) rfl (by decide) (q_tn (z := 0) rfl ?_)
            refine q_iconst rfl rfl ?_
            refine q_aload_n rfl rfl rfl ?_
            refine q_getf rfl rfl (by decide) rfl rfl ?_
            refine q_bipush rfl rfl ?_
            refine q_iload rfl rfl rfl ?_
            refine q_iadd rfl rfl (q_tn (z := 14) rfl ?_)
            refine q_iald rfl rfl (by decide) rfl (by decide) (q_tn (z := 0) rfl ?_)
            refine q_ishl rfl rfl (q_tn (z := 1) rfl ?_)
            refine q_ior rfl rfl (q_tn (z := 1) rfl ?_)
            refine q_iast rfl rfl (by decide) rfl (by decide) ?_
            refine q_icc4 (z := 3) rfl rfl rfl rfl rfl ?_
            refine q_goto rfl ?_
            refine q_iload rfl rfl rfl ?_
            refine q_iconst rfl rfl ?_
            refine q_icge rfl rfl (fun c527 => absurd c527 (by decide)) (fun c527 => ?_)
            refine q_aload_n rfl rfl rfl ?_
            refine q_getf rfl rfl (by decide) rfl rfl ?_
            refine q_iconst rfl rfl ?_
            refine q_iload_n rfl rfl rfl ?_
            refine q_imul rfl rfl (q_tn (z := 12) rfl ?_)
            refine q_iload rfl rfl rfl ?_
            refine q_iadd rfl rfl (q_tn (z := 15) rfl ?_)
            refine q_dup2 rfl rfl ?_
            refine q_iald rfl rfl (by decide) rfl (by decide) (q_tn (z := 0) rfl ?_)
            refine q_iconst rfl rfl ?_
            refine q_aload_n rfl rfl rfl ?_
            refine q_getf rfl rfl (by decide) rfl rfl ?_
            refine q_bipush rfl rfl ?_
            refine q_iload rfl rfl rfl ?_
            refine q_iadd rfl rfl (q_tn (z := 15) rfl ?_)
            refine q_iald rfl rfl (by decide) rfl (by decide) (q_tn (z := 0) rfl ?_)
            refine q_ishl rfl rfl (q_tn (z := 1) rfl ?_)
            refine q_ior rfl rfl (q_tn (z := 1) rfl ?_)
            refine q_iast rfl rfl (by decide) rfl (by decide) ?_
            refine q_icc4 (z := 4) rfl rfl rfl rfl rfl ?_
            refine q_goto rfl ?_
            refine q_iload rfl rfl rfl ?_
            refine q_iconst rfl rfl ?_
            refine q_icge rfl rfl (fun c528 => ?_) (fun c528 => absurd (by decide) c528)
            refine q_icc3 (z := 1) rfl rfl rfl rfl rfl ?_
            refine q_goto rfl ?_
            refine q_iload_n rfl rfl rfl ?_
            refine q_aload_n rfl rfl rfl ?_
            refine q_getf rfl rfl (by decide) rfl rfl ?_
            refine q_iload_n rfl rfl rfl ?_
            refine q_iald rfl rfl (by decide) rfl (by decide) (q_tn (z := 1) rfl ?_)
            refine q_icge rfl rfl (fun c529 => ?_) (fun c529 => absurd (by decide) c529)
            refine q_aload_n rfl rfl rfl ?_
            refine q_getf rfl rfl (by decide) rfl rfl ?_
            refine q_iload_n rfl rfl rfl ?_
            refine q_iald rfl rfl (by decide) rfl (by decide) (q_tn (z := 1) rfl ?_)
            refine q_iconst rfl rfl ?_
            refine q_icne rfl rfl (fun c530 => absurd c530 (by decide)) (fun c530 => ?_)
            refine q_iconst rfl rfl ?_
            refine q_iret rfl rfl rfl ?_
            refine ⟨_, rfl, ?_⟩
            refine q_ifne rfl rfl (fun c531 => ?_) (fun c531 => absurd (by decide) c531)
            refine q_iload_n rfl rfl rfl ?_
            refine q_ifeq rfl rfl (fun c532 => ?_) (fun c532 => absurd (by decide) c532)
            refine q_iconst rfl rfl ?_
            refine q_ist1n rfl rfl rfl rfl ?_
            refine q_icc2 (z := 4) rfl rfl rfl rfl rfl ?_
            refine q_goto rfl ?_
            refine q_iload_n rfl rfl rfl ?_
            refine q_iconst rfl rfl ?_
            refine q_icge rfl rfl (fun c533 => absurd c533 (by decide)) (fun c533 => ?_)
            refine q_aload_n rfl rfl rfl ?_
            refine q_iload_n rfl rfl rfl ?_
            refine q_nV1 rfl rfl (Or.inl rfl) rfl rfl rfl (by decide) rfl ⟨rfl, rfl⟩ rfl ?_
            change PQ _ _ _ mm_X12_isSpent 0 [.ref 46, .int 4, pm_un, pm_un, pm_un] [] _ _ 0 0 _
            refine q_iload_n rfl rfl rfl ?_
            refine q_ifne rfl rfl (fun c534 => absurd c534 (by decide)) (fun c534 => ?_)
            refine q_iconst rfl rfl ?_
            refine q_ist2n rfl rfl rfl rfl ?_
            refine q_aload_n rfl rfl rfl ?_
            refine q_iconst rfl rfl ?_
            refine q_putf rfl rfl (by decide) rfl (by decide) rfl trivial ?_
            refine q_aload_n rfl rfl rfl ?_
            refine q_getf rfl rfl (by decide) rfl rfl ?_
            refine q_iload_n rfl rfl rfl ?_
            refine q_iald rfl rfl (by decide) rfl (by decide) (q_tn (z := 0) rfl ?_)
            refine q_ifeq rfl rfl (fun c535 => ?_) (fun c535 => absurd (by decide) c535)
            refine q_aload_n rfl rfl rfl ?_
            refine q_getf rfl rfl (by decide) rfl rfl ?_
            refine q_iload_n rfl rfl rfl ?_
            refine q_aload_n rfl rfl rfl ?_
            refine q_iload_n rfl rfl rfl ?_
            refine q_iload_n rfl rfl rfl ?_
            refine q_nV2 rfl rfl (Or.inl rfl) rfl rfl rfl (by decide) rfl ⟨rfl, rfl⟩ rfl ?_
            change PQ _ _ _ mm_X12_explore 0 [.ref 46, .int 1, .int 4, pm_un, pm_un, pm_un, pm_un, pm_un] [] _ _ 0 0 _
            refine q_iconst rfl rfl ?_
            refine q_ist3n rfl rfl rfl rfl ?_
            refine l_net (R := 1) (by decide) rfl (by decide) rfl rfl rfl ?_
            refine q_aload_n rfl rfl rfl ?_
            refine q_getf rfl rfl (by decide) rfl rfl ?_
            refine q_iload_n rfl rfl rfl ?_
            refine q_iconst rfl rfl ?_
            refine q_iast rfl rfl (by decide) rfl (by decide) ?_
            refine q_aload_n rfl rfl rfl ?_
            refine q_nV0v rfl rfl (Or.inl rfl) rfl rfl rfl (by decide) rfl ⟨rfl, rfl⟩ rfl ?_
            change PQ _ _ _ mm_X12_firstState 0 [.ref 46, pm_un] [] _ _ 0 0 _
            refine q_iconst rfl rfl ?_
            refine q_ist1n rfl rfl rfl rfl ?_
            refine q_iload_n rfl rfl rfl ?_
            refine q_bipush rfl rfl ?_
            refine q_icge rfl rfl (fun c536 => absurd c536 (by decide)) (fun c536 => ?_)
            refine q_aload_n rfl rfl rfl ?_
            refine q_getf rfl rfl (by decide) rfl rfl ?_
            refine q_iload_n rfl rfl rfl ?_
            refine q_iconst rfl rfl ?_
            refine q_iast rfl rfl (by decide) rfl (by decide) ?_
            refine q_icc1 (z := 1) rfl rfl rfl rfl rfl ?_
            refine q_goto rfl ?_
            refine q_iload_n rfl rfl rfl ?_
            refine q_bipush rfl rfl ?_
            refine q_icge rfl rfl (fun c537 => absurd c537 (by decide)) (fun c537 => ?_)
            refine q_aload_n rfl rfl rfl ?_
            refine q_getf rfl rfl (by decide) rfl rfl ?_
            refine q_iload_n rfl rfl rfl ?_
            refine q_iconst rfl rfl ?_
            refine q_iast rfl rfl (by decide) rfl (by decide) ?_
            refine q_icc1 (z := 2) rfl rfl rfl rfl rfl ?_
            refine q_goto rfl ?_
            refine q_iload_n rfl rfl rfl ?_
            refine q_bipush rfl rfl ?_
            refine q_icge rfl rfl (fun c538 => absurd c538 (by decide)) (fun c538 => ?_)
            refine q_aload_n rfl rfl rfl ?_
            refine q_getf rfl rfl (by decide) rfl rfl ?_
            refine q_iload_n rfl rfl rfl ?_
            refine q_iconst rfl rfl ?_
            refine q_iast rfl rfl (by decide) rfl (by decide) ?_
            refine q_icc1 (z := 3) rfl rfl rfl rfl rfl ?_
            refine q_goto rfl ?_
            refine q_iload_n rfl rfl rfl ?_
            refine q_bipush rfl rfl ?_
            refine q_icge rfl rfl (fun c539 => absurd c539 (by decide)) (fun c539 => ?_)
            refine q_aload_n rfl rfl rfl ?_
            refine q_getf rfl rfl (by decide) rfl rfl ?_
            refine q_iload_n rfl rfl rfl ?_
            refine q_iconst rfl rfl ?_
            refine q_iast rfl rfl (by decide) rfl (by decide) ?_
            refine q_icc1 (z := 4) rfl rfl rfl rfl rfl ?_
            refine q_goto rfl ?_
            refine q_iload_n rfl rfl rfl ?_
            refine q_bipush rfl rfl ?_
            refine q_icge rfl rfl (fun c540 => absurd c540 (by decide)) (fun c540 => ?_)
            refine q_aload_n rfl rfl rfl ?_
            refine q_getf rfl rfl (by decide) rfl rfl ?_
            refine q_iload_n rfl rfl rfl ?_
            refine q_iconst rfl rfl ?_
            refine q_iast rfl rfl (by decide) rfl (by decide) ?_
            refine q_icc1 (z := 5) rfl rfl rfl rfl rfl ?_
            refine q_goto rfl ?_
            refine q_iload_n rfl rfl rfl ?_
            refine q_bipush rfl rfl ?_
            refine q_icge rfl rfl (fun c541 => absurd c541 (by decide)) (fun c541 => ?_)
            refine q_aload_n rfl rfl rfl ?_
            refine q_getf rfl rfl (by decide) rfl rfl ?_
            refine q_iload_n rfl rfl rfl ?_
            refine q_iconst rfl rfl ?_
            refine q_iast rfl rfl (by decide) rfl (by decide) ?_
            refine q_icc1 (z := 6) rfl rfl rfl rfl rfl ?_
            refine q_goto rfl ?_
            refine q_iload_n rfl rfl rfl ?_
            refine q_bipush rfl rfl ?_
            refine q_icge rfl rfl (fun c542 => absurd c542 (by decide)) (fun c542 => ?_)
            refine q_aload_n rfl rfl rfl ?_
            refine q_getf rfl rfl (by decide) rfl rfl ?_
            refine q_iload_n rfl rfl rfl ?_
            refine q_iconst rfl rfl ?_
            refine q_iast rfl rfl (by decide) rfl (by decide) ?_
            refine q_icc1 (z := 7) rfl rfl rfl rfl rfl ?_
            refine q_goto rfl ?_
            refine q_iload_n rfl rfl rfl ?_
            refine q_bipush rfl rfl ?_
            refine q_icge rfl rfl (fun c543 => absurd c543 (by decide)) (fun c543 => ?_)
            refine q_aload_n rfl rfl rfl ?_
            refine q_getf rfl rfl (by decide) rfl rfl ?_
            refine q_iload_n rfl rfl rfl ?_
            refine q_iconst rfl rfl ?_
            refine q_iast rfl rfl (by decide) rfl (by decide) ?_
            refine q_icc1 (z := 8) rfl rfl rfl rfl rfl ?_
            refine q_goto rfl ?_
            refine q_iload_n rfl rfl rfl ?_
            refine q_bipush rfl rfl ?_
            refine q_icge rfl rfl (fun c544 => absurd c544 (by decide)) (fun c544 => ?_)
            refine q_aload_n rfl rfl rfl ?_
            refine q_getf rfl rfl (by decide) rfl rfl ?_
            refine q_iload_n rfl rfl rfl ?_
            refine q_iconst rfl rfl ?_
            refine q_iast rfl rfl (by decide) rfl (by decide) ?_
            refine q_icc1 (z := 9) rfl rfl rfl rfl rfl ?_
            refine q_goto rfl ?_
            refine q_iload_n rfl rfl rfl ?_
            refine q_bipush rfl rfl ?_
            refine q_icge rfl rfl (fun c545 => absurd c545 (by decide)) (fun c545 => ?_)
            refine q_aload_n rfl rfl rfl ?_
            refine q_getf rfl rfl (by decide) rfl rfl ?_
            refine q_iload_n rfl rfl rfl ?_
            refine q_iconst rfl rfl ?_
            refine q_iast rfl rfl (by decide) rfl (by decide) ?_
            refine q_icc1 (z := 10) rfl rfl rfl rfl rfl ?_
            refine q_goto rfl ?_
            refine q_iload_n rfl rfl rfl ?_
            refine q_bipush rfl rfl ?_
            refine q_icge rfl rfl (fun c546 => absurd c546 (by decide)) (fun c546 => ?_)
            refine q_aload_n rfl rfl rfl ?_
            refine q_getf rfl rfl (by decide) rfl rfl ?_
            refine q_iload_n rfl rfl rfl ?_
            refine q_iconst rfl rfl ?_
            refine q_iast rfl rfl (by decide) rfl (by decide) ?_
            refine q_icc1 (z := 11) rfl rfl rfl rfl rfl ?_
            refine q_goto rfl ?_
            refine q_iload_n rfl rfl rfl ?_
            refine q_bipush rfl rfl ?_
            refine q_icge rfl rfl (fun c547 => absurd c547 (by decide)) (fun c547 => ?_)
            refine q_aload_n rfl rfl rfl ?_
            refine q_getf rfl rfl (by decide) rfl rfl ?_
            refine q_iload_n rfl rfl rfl ?_
            refine q_iconst rfl rfl ?_
            refine q_iast rfl rfl (by decide) rfl (by decide) ?_
            refine q_icc1 (z := 12) rfl rfl rfl rfl rfl ?_
            refine q_goto rfl ?_
            refine q_iload_n rfl rfl rfl ?_
            refine q_bipush rfl rfl ?_
            refine q_icge rfl rfl (fun c548 => absurd c548 (by decide)) (fun c548 => ?_)
            refine q_aload_n rfl rfl rfl ?_
            refine q_getf rfl rfl (by decide) rfl rfl ?_
            refine q_iload_n rfl rfl rfl ?_
            refine q_iconst rfl rfl ?_
            refine q_iast rfl rfl (by decide) rfl (by decide) ?_
            refine q_icc1 (z := 13) rfl rfl rfl rfl rfl ?_
            refine q_goto rfl ?_
            refine q_iload_n rfl rfl rfl ?_
            refine q_bipush rfl rfl ?_
            refine q_icge rfl rfl (fun c549 => absurd c549 (by decide)) (fun c549 => ?_)
            refine q_aload_n rfl rfl rfl ?_
            refine q_getf rfl rfl (by decide) rfl rfl ?_
            refine q_iload_n rfl rfl rfl ?_
            refine q_iconst rfl rfl ?_
            refine q_iast rfl rfl (by decide) rfl (by decide) ?_
            refine q_icc1 (z := 14) rfl rfl rfl rfl rfl ?_
            refine q_goto rfl ?_
            refine q_iload_n rfl rfl rfl ?_
            refine q_bipush rfl rfl ?_
            refine q_icge rfl rfl (fun c550 => absurd c550 (by decide)) (fun c550 => ?_)
            refine q_aload_n rfl rfl rfl ?_
            refine q_getf rfl rfl (by decide) rfl rfl ?_
            refine q_iload_n rfl rfl rfl ?_
            refine q_iconst rfl rfl ?_
            refine q_iast rfl rfl (by decide) rfl (by decide) ?_
            refine q_icc1 (z := 15) rfl rfl rfl rfl rfl ?_
            refine q_goto rfl ?_
            refine q_iload_n rfl rfl rfl ?_
            refine q_bipush rfl rfl ?_
            refine q_icge rfl rfl (fun c551 => absurd c551 (by decide)) (fun c551 => ?_)
            refine q_aload_n rfl rfl rfl ?_
            refine q_getf rfl rfl (by decide) rfl rfl ?_
            refine q_iload_n rfl rfl rfl ?_
            refine q_iconst rfl rfl ?_
            refine q_iast rfl rfl (by decide) rfl (by decide) ?_
            refine q_icc1 (z := 16) rfl rfl rfl rfl rfl ?_
            refine q_goto rfl ?_
            refine q_iload_n rfl rfl rfl ?_
            refine q_bipush rfl rfl ?_
            refine q_icge rfl rfl (fun c552 => absurd c552 (by decide)) (fun c552 => ?_)
            refine q_aload_n rfl rfl rfl ?_
            refine q_getf rfl rfl (by decide) rfl rfl ?_
            refine q_iload_n rfl rfl rfl ?_
            refine q_iconst rfl rfl ?_
            refine q_iast rfl rfl (by decide) rfl (by decide) ?_
            refine q_icc1 (z := 17) rfl rfl rfl rfl rfl ?_
            refine q_goto rfl ?_
            refine q_iload_n rfl rfl rfl ?_
            refine q_bipush rfl rfl ?_
            refine q_icge rfl rfl (fun c553 => absurd c553 (by decide)) (fun c553 => ?_)
            refine q_aload_n rfl rfl rfl ?_
            refine q_getf rfl rfl (by decide) rfl rfl ?_
            refine q_iload_n rfl rfl rfl ?_
            refine q_iconst rfl rfl ?_
            refine q_iast rfl rfl (by decide) rfl (by decide) ?_
            refine q_icc1 (z := 18) rfl rfl rfl rfl rfl ?_
            refine q_goto rfl ?_
            refine q_iload_n rfl rfl rfl ?_
            refine q_bipush rfl rfl ?_
            refine q_icge rfl rfl (fun c554 => absurd c554 (by decide)) (fun c554 => ?_)
            refine q_aload_n rfl rfl rfl ?_
            refine q_getf rfl rfl (by decide) rfl rfl ?_
            refine q_iload_n rfl rfl rfl ?_
            refine q_iconst rfl rfl ?_
            refine q_iast rfl rfl (by decide) rfl (by decide) ?_
            refine q_icc1 (z := 19) rfl rfl rfl rfl rfl ?_
            refine q_goto rfl ?_
            refine q_iload_n rfl rfl rfl ?_
            refine q_bipush rfl rfl ?_
            refine q_icge rfl rfl (fun c555 => absurd c555 (by decide)) (fun c555 => ?_)
            refine q_aload_n rfl rfl rfl ?_
            refine q_getf rfl rfl (by decide) rfl rfl ?_
            refine q_iload_n rfl rfl rfl ?_
            refine q_iconst rfl rfl ?_
            refine q_iast rfl rfl (by decide) rfl (by decide) ?_
            refine q_icc1 (z := 20) rfl rfl rfl rfl rfl ?_
            refine q_goto rfl ?_
            refine q_iload_n rfl rfl rfl ?_
            refine q_bipush rfl rfl ?_
            refine q_icge rfl rfl (fun c556 => ?_) (fun c556 => absurd (by decide) c556)
            refine q_iconst rfl rfl ?_
            refine q_ist1n rfl rfl rfl rfl ?_
            refine q_iload_n rfl rfl rfl ?_
            refine q_aload_n rfl rfl rfl ?_
            refine q_getf rfl rfl (by decide) rfl rfl ?_
            refine q_icge rfl rfl (fun c557 => absurd c557 (by decide)) (fun c557 => ?_)
            refine q_aload_n rfl rfl rfl ?_
            refine q_getf rfl rfl (by decide) rfl rfl ?_
            refine q_iconst rfl rfl ?_
            refine q_iload_n rfl rfl rfl ?_
            refine q_imul rfl rfl (q_tn (z := 0) rfl ?_)
            refine q_aload_n rfl rfl rfl ?_
            refine q_getf rfl rfl (by decide) rfl rfl ?_
            refine q_aload_n rfl rfl rfl ?_
            refine q_getf rfl rfl (by decide) rfl rfl ?_
            refine q_iload_n rfl rfl rfl ?_
            refine q_iadd rfl rfl (q_tn (z := 0) rfl ?_)
            refine q_iald rfl rfl (by decide) ((FM_47 hM).trans (FW_47 S hW)) (by decide) (q_tn (z := 0) rfl ?_)
            refine q_ifne rfl rfl (fun c558 => ?_) (fun c558 => absurd (by decide) c558)
            refine q_bipush rfl rfl ?_
            refine q_goto rfl ?_
            refine q_iast rfl rfl (by decide) rfl (by decide) ?_
            refine q_icc1 (z := 1) rfl rfl rfl rfl rfl ?_
            refine q_goto rfl ?_
            refine q_iload_n rfl rfl rfl ?_
            refine q_aload_n rfl rfl rfl ?_
            refine q_getf rfl rfl (by decide) rfl rfl ?_
            refine q_icge rfl rfl (fun c559 => ?_) (fun c559 => absurd (by decide) c559)
            refine q_iconst rfl rfl ?_
            refine q_ist1n rfl rfl rfl rfl ?_
            refine q_iload_n rfl rfl rfl ?_
            refine q_iconst rfl rfl ?_
            refine q_icge rfl rfl (fun c560 => absurd c560 (by decide)) (fun c560 => ?_)
            refine q_aload_n rfl rfl rfl ?_
            refine q_getf rfl rfl (by decide) rfl rfl ?_
            refine q_bipush rfl rfl ?_
            refine q_iload_n rfl rfl rfl ?_
            refine q_iadd rfl rfl (q_tn (z := 12) rfl ?_)
            refine q_aload_n rfl rfl rfl ?_
            refine q_getf rfl rfl (by decide) rfl rfl ?_
            refine q_iload_n rfl rfl rfl ?_
            refine q_iald rfl rfl (by decide) ((FM_51 hM).trans (FW_51 S hW)) (by decide) (q_tn (z := 0) rfl ?_)
            refine q_iast rfl rfl (by decide) rfl (by decide) ?_
            refine q_icc1 (z := 1) rfl rfl rfl rfl rfl ?_
            refine q_goto rfl ?_
            refine q_iload_n rfl rfl rfl ?_
            refine q_iconst rfl rfl ?_
            refine q_icge rfl rfl (fun c561 => absurd c561 (by decide)) (fun c561 => ?_)
            refine q_aload_n rfl rfl rfl ?_
            refine q_getf rfl rfl (by decide) rfl rfl ?_
            refine q_bipush rfl rfl ?_
            refine q_iload_n rfl rfl rfl ?_
            refine q_iadd rfl rfl (q_tn (z := 13) rfl ?_)
            refine q_aload_n rfl rfl rfl ?_
            refine q_getf rfl rfl (by decide) rfl rfl ?_
            refine q_iload_n rfl rfl rfl ?_
            refine q_iald rfl rfl (by decide) ((FM_51 hM).trans (FW_51 S hW)) (by decide) (q_tn (z := 0) rfl ?_)
            refine q_iast rfl rfl (by decide) rfl (by decide) ?_
            refine q_icc1 (z := 2) rfl rfl rfl rfl rfl ?_
            refine q_goto rfl ?_
            refine q_iload_n rfl rfl rfl ?_
            refine q_iconst rfl rfl ?_
            refine q_icge rfl rfl (fun c562 => absurd c562 (by decide)) (fun c562 => ?_)
            refine q_aload_n rfl rfl rfl ?_
            refine q_getf rfl rfl (by decide) rfl rfl ?_
            refine q_bipush rfl rfl ?_
            as_aux_lemma =>
              refine q_iload_n rfl rfl rfl ?_
              refine q_iadd rfl rfl (q_tn (z := 14) rfl ?_)
              refine q_aload_n rfl rfl rfl ?_
              refine q_getf rfl rfl (by decide) rfl rfl ?_
              refine q_iload_n rfl rfl rfl ?_
              refine q_iald rfl rfl (by decide) ((FM_51 hM).trans (FW_51 S hW)) (by decide) (q_tn (z := 0) rfl ?_)
              refine q_iast rfl rfl (by decide) rfl (by decide) ?_
              refine q_icc1 (z := 3) rfl rfl rfl rfl rfl ?_
              refine q_goto rfl ?_
              refine q_iload_n rfl rfl rfl ?_
              refine q_iconst rfl rfl ?_
              refine q_icge rfl rfl (fun c563 => absurd c563 (by decide)) (fun c563 => ?_)
              refine q_aload_n rfl rfl rfl ?_
              refine q_getf rfl rfl (by decide) rfl rfl ?_
              refine q_bipush rfl rfl ?_
              refine q_iload_n rfl rfl rfl ?_
              refine q_iadd rfl rfl (q_tn (z := 15) rfl ?_)
              refine q_aload_n rfl rfl rfl ?_
              refine q_getf rfl rfl (by decide) rfl rfl ?_
              refine q_iload_n rfl rfl rfl ?_
              refine q_iald rfl rfl (by decide) ((FM_51 hM).trans (FW_51 S hW)) (by decide) (q_tn (z := 0) rfl ?_)
              refine q_iast rfl rfl (by decide) rfl (by decide) ?_
              refine q_icc1 (z := 4) rfl rfl rfl rfl rfl ?_
              refine q_goto rfl ?_
              refine q_iload_n rfl rfl rfl ?_
              refine q_iconst rfl rfl ?_
              refine q_icge rfl rfl (fun c564 => ?_) (fun c564 => absurd (by decide) c564)
              refine q_ret rfl rfl ?_
              refine ⟨rfl, ?_⟩
              refine q_iconst rfl rfl ?_
              refine q_ist3n rfl rfl rfl rfl ?_
              refine q_iload_n rfl rfl rfl ?_
              refine q_bipush rfl rfl ?_
              refine q_icge rfl rfl (fun c565 => absurd c565 (by decide)) (fun c565 => ?_)
              refine q_aload_n rfl rfl rfl ?_
              refine q_getf rfl rfl (by decide) rfl rfl ?_
              refine q_iload_n rfl rfl rfl ?_
              refine q_aload_n rfl rfl rfl ?_
              refine q_getf rfl rfl (by decide) rfl rfl ?_
              refine q_iload_n rfl rfl rfl ?_
              refine q_iald rfl rfl (by decide) rfl (by decide) (q_tn (z := 10) rfl ?_)
              refine q_iast rfl rfl (by decide) rfl (by decide) ?_
              refine q_icc3 (z := 1) rfl rfl rfl rfl rfl ?_
              refine q_goto rfl ?_
              refine q_iload_n rfl rfl rfl ?_
              refine q_bipush rfl rfl ?_
              refine q_icge rfl rfl (fun c566 => absurd c566 (by decide)) (fun c566 => ?_)
              refine q_aload_n rfl rfl rfl ?_
              refine q_getf rfl rfl (by decide) rfl rfl ?_
              refine q_iload_n rfl rfl rfl ?_
              refine q_aload_n rfl rfl rfl ?_
              refine q_getf rfl rfl (by decide) rfl rfl ?_
              refine q_iload_n rfl rfl rfl ?_
              refine q_iald rfl rfl (by decide) rfl (by decide) (q_tn (z := 0) rfl ?_)
              refine q_iast rfl rfl (by decide) rfl (by decide) ?_
              refine q_icc3 (z := 2) rfl rfl rfl rfl rfl ?_
              refine q_goto rfl ?_
              refine q_iload_n rfl rfl rfl ?_
              refine q_bipush rfl rfl ?_
              refine q_icge rfl rfl (fun c567 => absurd c567 (by decide)) (fun c567 => ?_)
              refine q_aload_n rfl rfl rfl ?_
              refine q_getf rfl rfl (by decide) rfl rfl ?_
              refine q_iload_n rfl rfl rfl ?_
              refine q_aload_n rfl rfl rfl ?_
              refine q_getf rfl rfl (by decide) rfl rfl ?_
              refine q_iload_n rfl rfl rfl ?_
              refine q_iald rfl rfl (by decide) rfl (by decide) (q_tn (z := 0) rfl ?_)
              refine q_iast rfl rfl (by decide) rfl (by decide) ?_
              refine q_icc3 (z := 3) rfl rfl rfl rfl rfl ?_
              refine q_goto rfl ?_
              refine q_iload_n rfl rfl rfl ?_
              refine q_bipush rfl rfl ?_
              refine q_icge rfl rfl (fun c568 => absurd c568 (by decide)) (fun c568 => ?_)
              refine q_aload_n rfl rfl rfl ?_
              refine q_getf rfl rfl (by decide) rfl rfl ?_
              refine q_iload_n rfl rfl rfl ?_
              refine q_aload_n rfl rfl rfl ?_
              refine q_getf rfl rfl (by decide) rfl rfl ?_
              refine q_iload_n rfl rfl rfl ?_
              refine q_iald rfl rfl (by decide) rfl (by decide) (q_tn (z := 0) rfl ?_)
              refine q_iast rfl rfl (by decide) rfl (by decide) ?_
              refine q_icc3 (z := 4) rfl rfl rfl rfl rfl ?_
              refine q_goto rfl ?_
              refine q_iload_n rfl rfl rfl ?_
              refine q_bipush rfl rfl ?_
              refine q_icge rfl rfl (fun c569 => absurd c569 (by decide)) (fun c569 => ?_)
              refine q_aload_n rfl rfl rfl ?_
              refine q_getf rfl rfl (by decide) rfl rfl ?_
              refine q_iload_n rfl rfl rfl ?_
              refine q_aload_n rfl rfl rfl ?_
              refine q_getf rfl rfl (by decide) rfl rfl ?_
              refine q_iload_n rfl rfl rfl ?_
              refine q_iald rfl rfl (by decide) rfl (by decide) (q_tn (z := 0) rfl ?_)
              refine q_iast rfl rfl (by decide) rfl (by decide) ?_
              refine q_icc3 (z := 5) rfl rfl rfl rfl rfl ?_
              refine q_goto rfl ?_
              refine q_iload_n rfl rfl rfl ?_
              refine q_bipush rfl rfl ?_
              refine q_icge rfl rfl (fun c570 => absurd c570 (by decide)) (fun c570 => ?_)
              refine q_aload_n rfl rfl rfl ?_
              refine q_getf rfl rfl (by decide) rfl rfl ?_
              refine q_iload_n rfl rfl rfl ?_
              refine q_aload_n rfl rfl rfl ?_
              refine q_getf rfl rfl (by decide) rfl rfl ?_
              refine q_iload_n rfl rfl rfl ?_
              refine q_iald rfl rfl (by decide) rfl (by decide) (q_tn (z := 0) rfl ?_)
              refine q_iast rfl rfl (by decide) rfl (by decide) ?_
              refine q_icc3 (z := 6) rfl rfl rfl rfl rfl ?_
              refine q_goto rfl ?_
              refine q_iload_n rfl rfl rfl ?_
              refine q_bipush rfl rfl ?_
              refine q_icge rfl rfl (fun c571 => absurd c571 (by decide)) (fun c571 => ?_)
              refine q_aload_n rfl rfl rfl ?_
              refine q_getf rfl rfl (by decide) rfl rfl ?_
              refine q_iload_n rfl rfl rfl ?_
              refine q_aload_n rfl rfl rfl ?_
              refine q_getf rfl rfl (by decide) rfl rfl ?_
              refine q_iload_n rfl rfl rfl ?_
              refine q_iald rfl rfl (by decide) rfl (by decide) (q_tn (z := 0) rfl ?_)
              refine q_iast rfl rfl (by decide) rfl (by decide) ?_
              refine q_icc3 (z := 7) rfl rfl rfl rfl rfl ?_
              refine q_goto rfl ?_
              refine q_iload_n rfl rfl rfl ?_
              refine q_bipush rfl rfl ?_
              refine q_icge rfl rfl (fun c572 => absurd c572 (by decide)) (fun c572 => ?_)
              refine q_aload_n rfl rfl rfl ?_
              refine q_getf rfl rfl (by decide) rfl rfl ?_
              refine q_iload_n rfl rfl rfl ?_
              refine q_aload_n rfl rfl rfl ?_
              refine q_getf rfl rfl (by decide) rfl rfl ?_
              refine q_iload_n rfl rfl rfl ?_
              refine q_iald rfl rfl (by decide) rfl (by decide) (q_tn (z := 0) rfl ?_)
              refine q_iast rfl rfl (by decide) rfl (by decide) ?_
              refine q_icc3 (z := 8) rfl rfl rfl rfl rfl ?_
              refine q_goto rfl ?_
              refine q_iload_n rfl rfl rfl ?_
              refine q_bipush rfl rfl ?_
              refine q_icge rfl rfl (fun c573 => absurd c573 (by decide)) (fun c573 => ?_)
              refine q_aload_n rfl rfl rfl ?_
              refine q_getf rfl rfl (by decide) rfl rfl ?_
              refine q_iload_n rfl rfl rfl ?_
              refine q_aload_n rfl rfl rfl ?_
              refine q_getf rfl rfl (by decide) rfl rfl ?_
              refine q_iload_n rfl rfl rfl ?_
              refine q_iald rfl rfl (by decide) rfl (by decide) (q_tn (z := 0) rfl ?_)
              refine q_iast rfl rfl (by decide) rfl (by decide) ?_
              refine q_icc3 (z := 9) rfl rfl rfl rfl rfl ?_
              refine q_goto rfl ?_
              refine q_iload_n rfl rfl rfl ?_
              refine q_bipush rfl rfl ?_
              refine q_icge rfl rfl (fun c574 => absurd c574 (by decide)) (fun c574 => ?_)
              refine q_aload_n rfl rfl rfl ?_
              refine q_getf rfl rfl (by decide) rfl rfl ?_
              refine q_iload_n rfl rfl rfl ?_
              refine q_aload_n rfl rfl rfl ?_
              refine q_getf rfl rfl (by decide) rfl rfl ?_
              refine q_iload_n rfl rfl rfl ?_
              refine q_iald rfl rfl (by decide) rfl (by decide) (q_tn (z := 0) rfl ?_)
              refine q_iast rfl rfl (by decide) rfl (by decide) ?_
              refine q_icc3 (z := 10) rfl rfl rfl rfl rfl ?_
              refine q_goto rfl ?_
              refine q_iload_n rfl rfl rfl ?_
              refine q_bipush rfl rfl ?_
              refine q_icge rfl rfl (fun c575 => absurd c575 (by decide)) (fun c575 => ?_)
              refine q_aload_n rfl rfl rfl ?_
              refine q_getf rfl rfl (by decide) rfl rfl ?_
              refine q_iload_n rfl rfl rfl ?_
              refine q_aload_n rfl rfl rfl ?_
              refine q_getf rfl rfl (by decide) rfl rfl ?_
              refine q_iload_n rfl rfl rfl ?_
              refine q_iald rfl rfl (by decide) rfl (by decide) (q_tn (z := 0) rfl ?_)
              refine q_iast rfl rfl (by decide) rfl (by decide) ?_
              refine q_icc3 (z := 11) rfl rfl rfl rfl rfl ?_
              refine q_goto rfl ?_
              refine q_iload_n rfl rfl rfl ?_
              refine q_bipush rfl rfl ?_
              refine q_icge rfl rfl (fun c576 => absurd c576 (by decide)) (fun c576 => ?_)
              refine q_aload_n rfl rfl rfl ?_
              refine q_getf rfl rfl (by decide) rfl rfl ?_
              refine q_iload_n rfl rfl rfl ?_
              refine q_aload_n rfl rfl rfl ?_
              refine q_getf rfl rfl (by decide) rfl rfl ?_
              refine q_iload_n rfl rfl rfl ?_
              refine q_iald rfl rfl (by decide) rfl (by decide) (q_tn (z := 0) rfl ?_)
              refine q_iast rfl rfl (by decide) rfl (by decide) ?_
              refine q_icc3 (z := 12) rfl rfl rfl rfl rfl ?_
              refine q_goto rfl ?_
              refine q_iload_n rfl rfl rfl ?_
              refine q_bipush rfl rfl ?_
              refine q_icge rfl rfl (fun c577 => absurd c577 (by decide)) (fun c577 => ?_)
              refine q_aload_n rfl rfl rfl ?_
              refine q_getf rfl rfl (by decide) rfl rfl ?_
              refine q_iload_n rfl rfl rfl ?_
              refine q_aload_n rfl rfl rfl ?_
              refine q_getf rfl rfl (by decide) rfl rfl ?_
              refine q_iload_n rfl rfl rfl ?_
              refine q_iald rfl rfl (by decide) rfl (by decide) (q_tn (z := 0) rfl ?_)
              refine q_iast rfl rfl (by decide) rfl (by decide) ?_
              refine q_icc3 (z := 13) rfl rfl rfl rfl rfl ?_
              refine q_goto rfl ?_
              refine q_iload_n rfl rfl rfl ?_
              refine q_bipush rfl rfl ?_
              refine q_icge rfl rfl (fun c578 => absurd c578 (by decide)) (fun c578 => ?_)
              refine q_aload_n rfl rfl rfl ?_
              refine q_getf rfl rfl (by decide) rfl rfl ?_
              refine q_iload_n rfl rfl rfl ?_
              refine q_aload_n rfl rfl rfl ?_
              refine q_getf rfl rfl (by decide) rfl rfl ?_
              refine q_iload_n rfl rfl rfl ?_
              refine q_iald rfl rfl (by decide) rfl (by decide) (q_tn (z := 0) rfl ?_)
              refine q_iast rfl rfl (by decide) rfl (by decide) ?_
              refine q_icc3 (z := 14) rfl rfl rfl rfl rfl ?_
              refine q_goto rfl ?_
              refine q_iload_n rfl rfl rfl ?_
              refine q_bipush rfl rfl ?_
              refine q_icge rfl rfl (fun c579 => absurd c579 (by decide)) (fun c579 => ?_)
              refine q_aload_n rfl rfl rfl ?_
              refine q_getf rfl rfl (by decide) rfl rfl ?_
              refine q_iload_n rfl rfl rfl ?_
              refine q_aload_n rfl rfl rfl ?_
              refine q_getf rfl rfl (by decide) rfl rfl ?_
              refine q_iload_n rfl rfl rfl ?_
              refine q_iald rfl rfl (by decide) rfl (by decide) (q_tn (z := 0) rfl ?_)
              refine q_iast rfl rfl (by decide) rfl (by decide) ?_
              refine q_icc3 (z := 15) rfl rfl rfl rfl rfl ?_
              refine q_goto rfl ?_
              refine q_iload_n rfl rfl rfl ?_
              refine q_bipush rfl rfl ?_
              refine q_icge rfl rfl (fun c580 => absurd c580 (by decide)) (fun c580 => ?_)
              refine q_aload_n rfl rfl rfl ?_
              refine q_getf rfl rfl (by decide) rfl rfl ?_
              refine q_iload_n rfl rfl rfl ?_
              refine q_aload_n rfl rfl rfl ?_
              refine q_getf rfl rfl (by decide) rfl rfl ?_
              refine q_iload_n rfl rfl rfl ?_
              refine q_iald rfl rfl (by decide) rfl (by decide) (q_tn (z := 0) rfl ?_)
              refine q_iast rfl rfl (by decide) rfl (by decide) ?_
              refine q_icc3 (z := 16) rfl rfl rfl rfl rfl ?_
              refine q_goto rfl ?_
              refine q_iload_n rfl rfl rfl ?_
              refine q_bipush rfl rfl ?_
              refine q_icge rfl rfl (fun c581 => absurd c581 (by decide)) (fun c581 => ?_)
              refine q_aload_n rfl rfl rfl ?_
              refine q_getf rfl rfl (by decide) rfl rfl ?_
              refine q_iload_n rfl rfl rfl ?_
              refine q_aload_n rfl rfl rfl ?_
              refine q_getf rfl rfl (by decide) rfl rfl ?_
              refine q_iload_n rfl rfl rfl ?_
              refine q_iald rfl rfl (by decide) rfl (by decide) (q_tn (z := 0) rfl ?_)
              refine q_iast rfl rfl (by decide) rfl (by decide) ?_
              refine q_icc3 (z := 17) rfl rfl rfl rfl rfl ?_
              refine q_goto rfl ?_
              refine q_iload_n rfl rfl rfl ?_
              refine q_bipush rfl rfl ?_
              refine q_icge rfl rfl (fun c582 => absurd c582 (by decide)) (fun c582 => ?_)
              refine q_aload_n rfl rfl rfl ?_
              refine q_getf rfl rfl (by decide) rfl rfl ?_
              refine q_iload_n rfl rfl rfl ?_
              refine q_aload_n rfl rfl rfl ?_
              refine q_getf rfl rfl (by decide) rfl rfl ?_
              refine q_iload_n rfl rfl rfl ?_
              refine q_iald rfl rfl (by decide) rfl (by decide) (q_tn (z := 0) rfl ?_)
              refine q_iast rfl rfl (by decide) rfl (by decide) ?_
              refine q_icc3 (z := 18) rfl rfl rfl rfl rfl ?_
              refine q_goto rfl ?_
              refine q_iload_n rfl rfl rfl ?_
              refine q_bipush rfl rfl ?_
              refine q_icge rfl rfl (fun c583 => absurd c583 (by decide)) (fun c583 => ?_)
              refine q_aload_n rfl rfl rfl ?_
              refine q_getf rfl rfl (by decide) rfl rfl ?_
              refine q_iload_n rfl rfl rfl ?_
              refine q_aload_n rfl rfl rfl ?_
              refine q_getf rfl rfl (by decide) rfl rfl ?_
              refine q_iload_n rfl rfl rfl ?_
              refine q_iald rfl rfl (by decide) rfl (by decide) (q_tn (z := 0) rfl ?_)
              refine q_iast rfl rfl (by decide) rfl (by decide) ?_
              refine q_icc3 (z := 19) rfl rfl rfl rfl rfl ?_
              refine q_goto rfl ?_
              refine q_iload_n rfl rfl rfl ?_
              refine q_bipush rfl rfl ?_
              refine q_icge rfl rfl (fun c584 => absurd c584 (by decide)) (fun c584 => ?_)
              refine q_aload_n rfl rfl rfl ?_
              refine q_getf rfl rfl (by decide) rfl rfl ?_
              refine q_iload_n rfl rfl rfl ?_
              refine q_aload_n rfl rfl rfl ?_
              refine q_getf rfl rfl (by decide) rfl rfl ?_
              refine q_iload_n rfl rfl rfl ?_
              refine q_iald rfl rfl (by decide) rfl (by decide) (q_tn (z := 0) rfl ?_)
              refine q_iast rfl rfl (by decide) rfl (by decide) ?_
              refine q_icc3 (z := 20) rfl rfl rfl rfl rfl ?_
              refine q_goto rfl ?_
              refine q_iload_n rfl rfl rfl ?_
              refine q_bipush rfl rfl ?_
              refine q_icge rfl rfl (fun c585 => ?_) (fun c585 => absurd (by decide) c585)
              refine q_aload_n rfl rfl rfl ?_
              refine q_iload_n rfl rfl rfl ?_
              refine q_iconst rfl rfl ?_
              refine q_iconst rfl rfl ?_
              refine q_nV3 rfl rfl (Or.inl rfl) rfl rfl rfl (by decide) rfl ⟨rfl, rfl⟩ rfl ?_
              change PQ _ _ _ mm_X12_put 0 [.ref 46, .int 1, .int (-1), .int (-1), pm_un, pm_un, pm_un] [] _ _ 0 0 _
              refine q_aload_n rfl rfl rfl ?_
              refine q_getf rfl rfl (by decide) rfl rfl ?_
              refine q_iload_n rfl rfl rfl ?_
              refine q_iald rfl rfl (by decide) rfl (by decide) (q_tn (z := 0) rfl ?_)
              refine q_ist4 rfl rfl rfl rfl ?_
              refine q_iload rfl rfl rfl ?_
              refine q_sipush rfl rfl ?_
              refine q_icne rfl rfl (fun c586 => absurd c586 (by decide)) (fun c586 => ?_)
              refine q_sipush rfl rfl ?_
              refine q_iload_n rfl rfl rfl ?_
              refine q_imul rfl rfl (q_tn (z := 2000) rfl ?_)
              refine q_iload rfl rfl rfl ?_
              refine q_iadd rfl rfl (q_tn (z := 2000) rfl ?_)
              refine q_ist5 rfl rfl rfl rfl ?_
              refine q_iconst rfl rfl ?_
              refine q_ist6 rfl rfl rfl rfl ?_
              refine q_iload rfl rfl rfl ?_
              refine q_bipush rfl rfl ?_
              refine q_icge rfl rfl (fun c587 => absurd c587 (by decide)) (fun c587 => ?_)
              refine q_aload_n rfl rfl rfl ?_
              refine q_getf rfl rfl (by decide) rfl rfl ?_
              refine q_bipush rfl rfl ?_
              refine q_iload rfl rfl rfl ?_
              refine q_imul rfl rfl (q_tn (z := 40000) rfl ?_)
              refine q_iload rfl rfl rfl ?_
              refine q_iadd rfl rfl (q_tn (z := 40000) rfl ?_)
              refine q_aload_n rfl rfl rfl ?_
              refine q_getf rfl rfl (by decide) rfl rfl ?_
              refine q_iload rfl rfl rfl ?_
              refine q_iald rfl rfl (by decide) rfl (by decide) (q_tn (z := 10) rfl ?_)
              refine q_iast rfl rfl (by decide) rfl (by decide) ?_
              refine q_icc6 (z := 1) rfl rfl rfl rfl rfl ?_
              refine q_goto rfl ?_
              refine q_iload rfl rfl rfl ?_
              refine q_bipush rfl rfl ?_
              refine q_icge rfl rfl (fun c588 => absurd c588 (by decide)) (fun c588 => ?_)
              refine q_aload_n rfl rfl rfl ?_
              refine q_getf rfl rfl (by decide) rfl rfl ?_
              refine q_bipush rfl rfl ?_
              refine q_iload rfl rfl rfl ?_
              refine q_imul rfl rfl (q_tn (z := 40000) rfl ?_)
              refine q_iload rfl rfl rfl ?_
              refine q_iadd rfl rfl (q_tn (z := 40001) rfl ?_)
              refine q_aload_n rfl rfl rfl ?_
              refine q_getf rfl rfl (by decide) rfl rfl ?_
              refine q_iload rfl rfl rfl ?_
              refine q_iald rfl rfl (by decide) rfl (by decide) (q_tn (z := 0) rfl ?_)
              refine q_iast rfl rfl (by decide) rfl (by decide) ?_
              refine q_icc6 (z := 2) rfl rfl rfl rfl rfl ?_
              refine q_goto rfl ?_
              refine q_iload rfl rfl rfl ?_
              refine q_bipush rfl rfl ?_
              refine q_icge rfl rfl (fun c589 => absurd c589 (by decide)) (fun c589 => ?_)
              refine q_aload_n rfl rfl rfl ?_
              refine q_getf rfl rfl (by decide) rfl rfl ?_
              refine q_bipush rfl rfl ?_
              refine q_iload rfl rfl rfl ?_
              refine q_imul rfl rfl (q_tn (z := 40000) rfl ?_)
              refine q_iload rfl rfl rfl ?_
              refine q_iadd rfl rfl (q_tn (z := 40002) rfl ?_)
              refine q_aload_n rfl rfl rfl ?_
              refine q_getf rfl rfl (by decide) rfl rfl ?_
              refine q_iload rfl rfl rfl ?_
              refine q_iald rfl rfl (by decide) rfl (by decide) (q_tn (z := 0) rfl ?_)
              refine q_iast rfl rfl (by decide) rfl (by decide) ?_
              refine q_icc6 (z := 3) rfl rfl rfl rfl rfl ?_
              refine q_goto rfl ?_
              refine q_iload rfl rfl rfl ?_
              refine q_bipush rfl rfl ?_
              refine q_icge rfl rfl (fun c590 => absurd c590 (by decide)) (fun c590 => ?_)
              refine q_aload_n rfl rfl rfl ?_
              refine q_getf rfl rfl (by decide) rfl rfl ?_
              refine q_bipush rfl rfl ?_
              refine q_iload rfl rfl rfl ?_
              refine q_imul rfl rfl (q_tn (z := 40000) rfl ?_)
              refine q_iload rfl rfl rfl ?_
              refine q_iadd rfl rfl (q_tn (z := 40003) rfl ?_)
              refine q_aload_n rfl rfl rfl ?_
              refine q_getf rfl rfl (by decide) rfl rfl ?_
              refine q_iload rfl rfl rfl ?_
              refine q_iald rfl rfl (by decide) rfl (by decide) (q_tn (z := 0) rfl ?_)
              refine q_iast rfl rfl (by decide) rfl (by decide) ?_
              refine q_icc6 (z := 4) rfl rfl rfl rfl rfl ?_
              refine q_goto rfl ?_
              refine q_iload rfl rfl rfl ?_
              refine q_bipush rfl rfl ?_
              refine q_icge rfl rfl (fun c591 => absurd c591 (by decide)) (fun c591 => ?_)
              refine q_aload_n rfl rfl rfl ?_
              refine q_getf rfl rfl (by decide) rfl rfl ?_
              refine q_bipush rfl rfl ?_
              refine q_iload rfl rfl rfl ?_
              refine q_imul rfl rfl (q_tn (z := 40000) rfl ?_)
              refine q_iload rfl rfl rfl ?_
              refine q_iadd rfl rfl (q_tn (z := 40004) rfl ?_)
              refine q_aload_n rfl rfl rfl ?_
              refine q_getf rfl rfl (by decide) rfl rfl ?_
              refine q_iload rfl rfl rfl ?_
              refine q_iald rfl rfl (by decide) rfl (by decide) (q_tn (z := 0) rfl ?_)
              refine q_iast rfl rfl (by decide) rfl (by decide) ?_
              refine q_icc6 (z := 5) rfl rfl rfl rfl rfl ?_
              refine q_goto rfl ?_
              refine q_iload rfl rfl rfl ?_
              refine q_bipush rfl rfl ?_
              refine q_icge rfl rfl (fun c592 => absurd c592 (by decide)) (fun c592 => ?_)
              refine q_aload_n rfl rfl rfl ?_
              refine q_getf rfl rfl (by decide) rfl rfl ?_
              refine q_bipush rfl rfl ?_
              refine q_iload rfl rfl rfl ?_
              refine q_imul rfl rfl (q_tn (z := 40000) rfl ?_)
              refine q_iload rfl rfl rfl ?_
              refine q_iadd rfl rfl (q_tn (z := 40005) rfl ?_)
              refine q_aload_n rfl rfl rfl ?_
              refine q_getf rfl rfl (by decide) rfl rfl ?_
              refine q_iload rfl rfl rfl ?_
              refine q_iald rfl rfl (by decide) rfl (by decide) (q_tn (z := 0) rfl ?_)
              refine q_iast rfl rfl (by decide) rfl (by decide) ?_
              refine q_icc6 (z := 6) rfl rfl rfl rfl rfl ?_
              refine q_goto rfl ?_
              refine q_iload rfl rfl rfl ?_
              refine q_bipush rfl rfl ?_
              refine q_icge rfl rfl (fun c593 => absurd c593 (by decide)) (fun c593 => ?_)
              refine q_aload_n rfl rfl rfl ?_
              refine q_getf rfl rfl (by decide) rfl rfl ?_
              refine q_bipush rfl rfl ?_
              refine q_iload rfl rfl rfl ?_
              refine q_imul rfl rfl (q_tn (z := 40000) rfl ?_)
              refine q_iload rfl rfl rfl ?_
              refine q_iadd rfl rfl (q_tn (z := 40006) rfl ?_)
              refine q_aload_n rfl rfl rfl ?_
              refine q_getf rfl rfl (by decide) rfl rfl ?_
              refine q_iload rfl rfl rfl ?_
              refine q_iald rfl rfl (by decide) rfl (by decide) (q_tn (z := 0) rfl ?_)
              refine q_iast rfl rfl (by decide) rfl (by decide) ?_
              refine q_icc6 (z := 7) rfl rfl rfl rfl rfl ?_
              refine q_goto rfl ?_
              refine q_iload rfl rfl rfl ?_
              refine q_bipush rfl rfl ?_
              refine q_icge rfl rfl (fun c594 => absurd c594 (by decide)) (fun c594 => ?_)
              refine q_aload_n rfl rfl rfl ?_
              refine q_getf rfl rfl (by decide) rfl rfl ?_
              refine q_bipush rfl rfl ?_
              refine q_iload rfl rfl rfl ?_
              refine q_imul rfl rfl (q_tn (z := 40000) rfl ?_)
              refine q_iload rfl rfl rfl ?_
              refine q_iadd rfl rfl (q_tn (z := 40007) rfl ?_)
              refine q_aload_n rfl rfl rfl ?_
              refine q_getf rfl rfl (by decide) rfl rfl ?_
              refine q_iload rfl rfl rfl ?_
              refine q_iald rfl rfl (by decide) rfl (by decide) (q_tn (z := 0) rfl ?_)
              refine q_iast rfl rfl (by decide) rfl (by decide) ?_
              refine q_icc6 (z := 8) rfl rfl rfl rfl rfl ?_
              refine q_goto rfl ?_
              refine q_iload rfl rfl rfl ?_
              refine q_bipush rfl rfl ?_
              refine q_icge rfl rfl (fun c595 => absurd c595 (by decide)) (fun c595 => ?_)
              refine q_aload_n rfl rfl rfl ?_
              refine q_getf rfl rfl (by decide) rfl rfl ?_
              refine q_bipush rfl rfl ?_
              refine q_iload rfl rfl rfl ?_
              refine q_imul rfl rfl (q_tn (z := 40000) rfl ?_)
              refine q_iload rfl rfl rfl ?_
              refine q_iadd rfl rfl (q_tn (z := 40008) rfl ?_)
              refine q_aload_n rfl rfl rfl ?_
              refine q_getf rfl rfl (by decide) rfl rfl ?_
              refine q_iload rfl rfl rfl ?_
              refine q_iald rfl rfl (by decide) rfl (by decide) (q_tn (z := 0) rfl ?_)
              refine q_iast rfl rfl (by decide) rfl (by decide) ?_
              refine q_icc6 (z := 9) rfl rfl rfl rfl rfl ?_
              refine q_goto rfl ?_
              refine q_iload rfl rfl rfl ?_
              refine q_bipush rfl rfl ?_
              refine q_icge rfl rfl (fun c596 => absurd c596 (by decide)) (fun c596 => ?_)
              refine q_aload_n rfl rfl rfl ?_
              refine q_getf rfl rfl (by decide) rfl rfl ?_
              refine q_bipush rfl rfl ?_
              refine q_iload rfl rfl rfl ?_
              refine q_imul rfl rfl (q_tn (z := 40000) rfl ?_)
              refine q_iload rfl rfl rfl ?_
              refine q_iadd rfl rfl (q_tn (z := 40009) rfl ?_)
              refine q_aload_n rfl rfl rfl ?_
              refine q_getf rfl rfl (by decide) rfl rfl ?_
              refine q_iload rfl rfl rfl ?_
              refine q_iald rfl rfl (by decide) rfl (by decide) (q_tn (z := 0) rfl ?_)
              refine q_iast rfl rfl (by decide) rfl (by decide) ?_
              refine q_icc6 (z := 10) rfl rfl rfl rfl rfl ?_
              refine q_goto rfl ?_
              refine q_iload rfl rfl rfl ?_
              refine q_bipush rfl rfl ?_
              refine q_icge rfl rfl (fun c597 => absurd c597 (by decide)) (fun c597 => ?_)
              refine q_aload_n rfl rfl rfl ?_
              refine q_getf rfl rfl (by decide) rfl rfl ?_
              refine q_bipush rfl rfl ?_
              refine q_iload rfl rfl rfl ?_
              refine q_imul rfl rfl (q_tn (z := 40000) rfl ?_)
              refine q_iload rfl rfl rfl ?_
              refine q_iadd rfl rfl (q_tn (z := 40010) rfl ?_)
              refine q_aload_n rfl rfl rfl ?_
              refine q_getf rfl rfl (by decide) rfl rfl ?_
              refine q_iload rfl rfl rfl ?_
              refine q_iald rfl rfl (by decide) rfl (by decide) (q_tn (z := 0) rfl ?_)
              refine q_iast rfl rfl (by decide) rfl (by decide) ?_
              refine q_icc6 (z := 11) rfl rfl rfl rfl rfl ?_
              refine q_goto rfl ?_
              refine q_iload rfl rfl rfl ?_
              refine q_bipush rfl rfl ?_
              refine q_icge rfl rfl (fun c598 => absurd c598 (by decide)) (fun c598 => ?_)
              refine q_aload_n rfl rfl rfl ?_
              refine q_getf rfl rfl (by decide) rfl rfl ?_
              refine q_bipush rfl rfl ?_
              refine q_iload rfl rfl rfl ?_
              refine q_imul rfl rfl (q_tn (z := 40000) rfl ?_)
              refine q_iload rfl rfl rfl ?_
              refine q_iadd rfl rfl (q_tn (z := 40011) rfl ?_)
              refine q_aload_n rfl rfl rfl ?_
              refine q_getf rfl rfl (by decide) rfl rfl ?_
              refine q_iload rfl rfl rfl ?_
              refine q_iald rfl rfl (by decide) rfl (by decide) (q_tn (z := 0) rfl ?_)
              refine q_iast rfl rfl (by decide) rfl (by decide) ?_
              refine q_icc6 (z := 12) rfl rfl rfl rfl rfl ?_
              refine q_goto rfl ?_
              refine q_iload rfl rfl rfl ?_
              refine q_bipush rfl rfl ?_
              refine q_icge rfl rfl (fun c599 => absurd c599 (by decide)) (fun c599 => ?_)
              refine q_aload_n rfl rfl rfl ?_
              refine q_getf rfl rfl (by decide) rfl rfl ?_
              refine q_bipush rfl rfl ?_
              refine q_iload rfl rfl rfl ?_
              refine q_imul rfl rfl (q_tn (z := 40000) rfl ?_)
              refine q_iload rfl rfl rfl ?_
              refine q_iadd rfl rfl (q_tn (z := 40012) rfl ?_)
              refine q_aload_n rfl rfl rfl ?_
              refine q_getf rfl rfl (by decide) rfl rfl ?_
              refine q_iload rfl rfl rfl ?_
              refine q_iald rfl rfl (by decide) rfl (by decide) (q_tn (z := 0) rfl ?_)
              refine q_iast rfl rfl (by decide) rfl (by decide) ?_
              refine q_icc6 (z := 13) rfl rfl rfl rfl rfl ?_
              refine q_goto rfl ?_
              refine q_iload rfl rfl rfl ?_
              refine q_bipush rfl rfl ?_
              refine q_icge rfl rfl (fun c600 => absurd c600 (by decide)) (fun c600 => ?_)
              refine q_aload_n rfl rfl rfl ?_
              refine q_getf rfl rfl (by decide) rfl rfl ?_
              refine q_bipush rfl rfl ?_
              refine q_iload rfl rfl rfl ?_
              refine q_imul rfl rfl (q_tn (z := 40000) rfl ?_)
              refine q_iload rfl rfl rfl ?_
              refine q_iadd rfl rfl (q_tn (z := 40013) rfl ?_)
              refine q_aload_n rfl rfl rfl ?_
              refine q_getf rfl rfl (by decide) rfl rfl ?_
              refine q_iload rfl rfl rfl ?_
              refine q_iald rfl rfl (by decide) rfl (by decide) (q_tn (z := 0) rfl ?_)
              refine q_iast rfl rfl (by decide) rfl (by decide) ?_
              refine q_icc6 (z := 14) rfl rfl rfl rfl rfl ?_
              refine q_goto rfl ?_
              refine q_iload rfl rfl rfl ?_
              refine q_bipush rfl rfl ?_
              refine q_icge rfl rfl (fun c601 => absurd c601 (by decide)) (fun c601 => ?_)
              refine q_aload_n rfl rfl rfl ?_
              refine q_getf rfl rfl (by decide) rfl rfl ?_
              refine q_bipush rfl rfl ?_
              refine q_iload rfl rfl rfl ?_
              refine q_imul rfl rfl (q_tn (z := 40000) rfl ?_)
              refine q_iload rfl rfl rfl ?_
              refine q_iadd rfl rfl (q_tn (z := 40014) rfl ?_)
              refine q_aload_n rfl rfl rfl ?_
              refine q_getf rfl rfl (by decide) rfl rfl ?_
              refine q_iload rfl rfl rfl ?_
              refine q_iald rfl rfl (by decide) rfl (by decide) (q_tn (z := 0) rfl ?_)
              refine q_iast rfl rfl (by decide) rfl (by decide) ?_
              refine q_icc6 (z := 15) rfl rfl rfl rfl rfl ?_
              refine q_goto rfl ?_
              refine q_iload rfl rfl rfl ?_
              refine q_bipush rfl rfl ?_
              refine q_icge rfl rfl (fun c602 => absurd c602 (by decide)) (fun c602 => ?_)
              refine q_aload_n rfl rfl rfl ?_
              refine q_getf rfl rfl (by decide) rfl rfl ?_
              refine q_bipush rfl rfl ?_
              refine q_iload rfl rfl rfl ?_
              refine q_imul rfl rfl (q_tn (z := 40000) rfl ?_)
              refine q_iload rfl rfl rfl ?_
              refine q_iadd rfl rfl (q_tn (z := 40015) rfl ?_)
              refine q_aload_n rfl rfl rfl ?_
              refine q_getf rfl rfl (by decide) rfl rfl ?_
              refine q_iload rfl rfl rfl ?_
              refine q_iald rfl rfl (by decide) rfl (by decide) (q_tn (z := 0) rfl ?_)
              refine q_iast rfl rfl (by decide) rfl (by decide) ?_
              refine q_icc6 (z := 16) rfl rfl rfl rfl rfl ?_
              refine q_goto rfl ?_
              refine q_iload rfl rfl rfl ?_
              refine q_bipush rfl rfl ?_
              refine q_icge rfl rfl (fun c603 => absurd c603 (by decide)) (fun c603 => ?_)
              refine q_aload_n rfl rfl rfl ?_
              refine q_getf rfl rfl (by decide) rfl rfl ?_
              refine q_bipush rfl rfl ?_
              refine q_iload rfl rfl rfl ?_
              refine q_imul rfl rfl (q_tn (z := 40000) rfl ?_)
              refine q_iload rfl rfl rfl ?_
              refine q_iadd rfl rfl (q_tn (z := 40016) rfl ?_)
              refine q_aload_n rfl rfl rfl ?_
              refine q_getf rfl rfl (by decide) rfl rfl ?_
              refine q_iload rfl rfl rfl ?_
              refine q_iald rfl rfl (by decide) rfl (by decide) (q_tn (z := 0) rfl ?_)
              refine q_iast rfl rfl (by decide) rfl (by decide) ?_
              refine q_icc6 (z := 17) rfl rfl rfl rfl rfl ?_
              refine q_goto rfl ?_
              refine q_iload rfl rfl rfl ?_
              refine q_bipush rfl rfl ?_
              refine q_icge rfl rfl (fun c604 => absurd c604 (by decide)) (fun c604 => ?_)
              refine q_aload_n rfl rfl rfl ?_
              refine q_getf rfl rfl (by decide) rfl rfl ?_
              refine q_bipush rfl rfl ?_
              refine q_iload rfl rfl rfl ?_
              refine q_imul rfl rfl (q_tn (z := 40000) rfl ?_)
              refine q_iload rfl rfl rfl ?_
              refine q_iadd rfl rfl (q_tn (z := 40017) rfl ?_)
              refine q_aload_n rfl rfl rfl ?_
              refine q_getf rfl rfl (by decide) rfl rfl ?_
              refine q_iload rfl rfl rfl ?_
              refine q_iald rfl rfl (by decide) rfl (by decide) (q_tn (z := 0) rfl ?_)
              refine q_iast rfl rfl (by decide) rfl (by decide) ?_
              refine q_icc6 (z := 18) rfl rfl rfl rfl rfl ?_
              refine q_goto rfl ?_
              refine q_iload rfl rfl rfl ?_
              refine q_bipush rfl rfl ?_
              refine q_icge rfl rfl (fun c605 => absurd c605 (by decide)) (fun c605 => ?_)
              refine q_aload_n rfl rfl rfl ?_
              refine q_getf rfl rfl (by decide) rfl rfl ?_
              refine q_bipush rfl rfl ?_
              refine q_iload rfl rfl rfl ?_
              refine q_imul rfl rfl (q_tn (z := 40000) rfl ?_)
              refine q_iload rfl rfl rfl ?_
              refine q_iadd rfl rfl (q_tn (z := 40018) rfl ?_)
              refine q_aload_n rfl rfl rfl ?_
              refine q_getf rfl rfl (by decide) rfl rfl ?_
              refine q_iload rfl rfl rfl ?_
              refine q_iald rfl rfl (by decide) rfl (by decide) (q_tn (z := 0) rfl ?_)
              refine q_iast rfl rfl (by decide) rfl (by decide) ?_
              refine q_icc6 (z := 19) rfl rfl rfl rfl rfl ?_
              refine q_goto rfl ?_
              refine q_iload rfl rfl rfl ?_
              refine q_bipush rfl rfl ?_
              refine q_icge rfl rfl (fun c606 => absurd c606 (by decide)) (fun c606 => ?_)
              refine q_aload_n rfl rfl rfl ?_
              refine q_getf rfl rfl (by decide) rfl rfl ?_
              refine q_bipush rfl rfl ?_
              refine q_iload rfl rfl rfl ?_
              refine q_imul rfl rfl (q_tn (z := 40000) rfl ?_)
              refine q_iload rfl rfl rfl ?_
              refine q_iadd rfl rfl (q_tn (z := 40019) rfl ?_)
              refine q_aload_n rfl rfl rfl ?_
              refine q_getf rfl rfl (by decide) rfl rfl ?_
              refine q_iload rfl rfl rfl ?_
              refine q_iald rfl rfl (by decide) rfl (by decide) (q_tn (z := 0) rfl ?_)
              refine q_iast rfl rfl (by decide) rfl (by decide) ?_
              refine q_icc6 (z := 20) rfl rfl rfl rfl rfl ?_
              refine q_goto rfl ?_
              refine q_iload rfl rfl rfl ?_
              refine q_bipush rfl rfl ?_
              refine q_icge rfl rfl (fun c607 => ?_) (fun c607 => absurd (by decide) c607)
              refine q_aload_n rfl rfl rfl ?_
              refine q_getf rfl rfl (by decide) rfl rfl ?_
              refine q_iload rfl rfl rfl ?_
              refine q_iload_n rfl rfl rfl ?_
              refine q_iast rfl rfl (by decide) rfl (by decide) ?_
              refine q_aload_n rfl rfl rfl ?_
              refine q_getf rfl rfl (by decide) rfl rfl ?_
              refine q_iload rfl rfl rfl ?_
              refine q_iload_n rfl rfl rfl ?_
              refine q_iast rfl rfl (by decide) rfl (by decide) ?_
              refine q_aload_n rfl rfl rfl ?_
              refine q_iload_n rfl rfl rfl ?_
              refine q_nV1 rfl rfl (Or.inl rfl) rfl rfl rfl (by decide) rfl ⟨rfl, rfl⟩ rfl ?_
              change PQ _ _ _ mm_X12_rest 0 [.ref 46, .int 1, pm_un, pm_un] [] _ _ 0 0 _
              refine q_bipush rfl rfl ?_
              refine q_ist2n rfl rfl rfl rfl ?_
              refine q_iconst rfl rfl ?_
              refine q_ist3n rfl rfl rfl rfl ?_
              refine q_iload_n rfl rfl rfl ?_
              refine q_bipush rfl rfl ?_
              refine q_icge rfl rfl (fun c608 => absurd c608 (by decide)) (fun c608 => ?_)
              refine q_bipush rfl rfl ?_
              refine q_iload_n rfl rfl rfl ?_
              refine q_imul rfl rfl (q_tn (z := 527) rfl ?_)
              refine q_aload_n rfl rfl rfl ?_
              refine q_getf rfl rfl (by decide) rfl rfl ?_
              refine q_iload_n rfl rfl rfl ?_
              refine q_iald rfl rfl (by decide) rfl (by decide) (q_tn (z := 10) rfl ?_)
              refine q_iadd rfl rfl (q_tn (z := 537) rfl ?_)
              refine q_ist2n rfl rfl rfl rfl ?_
              refine q_icc3 (z := 1) rfl rfl rfl rfl rfl ?_
              refine q_goto rfl ?_
              refine q_iload_n rfl rfl rfl ?_
              refine q_bipush rfl rfl ?_
              refine q_icge rfl rfl (fun c609 => absurd c609 (by decide)) (fun c609 => ?_)
              refine q_bipush rfl rfl ?_
              refine q_iload_n rfl rfl rfl ?_
              refine q_imul rfl rfl (q_tn (z := 16647) rfl ?_)
              refine q_aload_n rfl rfl rfl ?_
              refine q_getf rfl rfl (by decide) rfl rfl ?_
              refine q_iload_n rfl rfl rfl ?_
              refine q_iald rfl rfl (by decide) rfl (by decide) (q_tn (z := 0) rfl ?_)
              refine q_iadd rfl rfl (q_tn (z := 16647) rfl ?_)
              refine q_ist2n rfl rfl rfl rfl ?_
              refine q_icc3 (z := 2) rfl rfl rfl rfl rfl ?_
              refine q_goto rfl ?_
              refine q_iload_n rfl rfl rfl ?_
              refine q_bipush rfl rfl ?_
              refine q_icge rfl rfl (fun c610 => absurd c610 (by decide)) (fun c610 => ?_)
              refine q_bipush rfl rfl ?_
              refine q_iload_n rfl rfl rfl ?_
              refine q_imul rfl rfl (q_tn (z := 516057) rfl ?_)
              refine q_aload_n rfl rfl rfl ?_
              refine q_getf rfl rfl (by decide) rfl rfl ?_
              refine q_iload_n rfl rfl rfl ?_
              refine q_iald rfl rfl (by decide) rfl (by decide) (q_tn (z := 0) rfl ?_)
              refine q_iadd rfl rfl (q_tn (z := 516057) rfl ?_)
              refine q_ist2n rfl rfl rfl rfl ?_
              refine q_icc3 (z := 3) rfl rfl rfl rfl rfl ?_
              refine q_goto rfl ?_
              refine q_iload_n rfl rfl rfl ?_
              refine q_bipush rfl rfl ?_
              refine q_icge rfl rfl (fun c611 => absurd c611 (by decide)) (fun c611 => ?_)
              refine q_bipush rfl rfl ?_
              refine q_iload_n rfl rfl rfl ?_
              refine q_imul rfl rfl (q_tn (z := 15997767) rfl ?_)
              refine q_aload_n rfl rfl rfl ?_
              refine q_getf rfl rfl (by decide) rfl rfl ?_
              refine q_iload_n rfl rfl rfl ?_
              refine q_iald rfl rfl (by decide) rfl (by decide) (q_tn (z := 0) rfl ?_)
              refine q_iadd rfl rfl (q_tn (z := 15997767) rfl ?_)
              refine q_ist2n rfl rfl rfl rfl ?_
              refine q_icc3 (z := 4) rfl rfl rfl rfl rfl ?_
              refine q_goto rfl ?_
              refine q_iload_n rfl rfl rfl ?_
              refine q_bipush rfl rfl ?_
              refine q_icge rfl rfl (fun c612 => absurd c612 (by decide)) (fun c612 => ?_)
              refine q_bipush rfl rfl ?_
              refine q_iload_n rfl rfl rfl ?_
              refine q_imul rfl rfl (q_tn (z := 495930777) rfl ?_)
              refine q_aload_n rfl rfl rfl ?_
              refine q_getf rfl rfl (by decide) rfl rfl ?_
              refine q_iload_n rfl rfl rfl ?_
              refine q_iald rfl rfl (by decide) rfl (by decide) (q_tn (z := 0) rfl ?_)
              refine q_iadd rfl rfl (q_tn (z := 495930777) rfl ?_)
              refine q_ist2n rfl rfl rfl rfl ?_
              refine q_icc3 (z := 5) rfl rfl rfl rfl rfl ?_
              refine q_goto rfl ?_
              refine q_iload_n rfl rfl rfl ?_
              refine q_bipush rfl rfl ?_
              refine q_icge rfl rfl (fun c613 => absurd c613 (by decide)) (fun c613 => ?_)
              refine q_bipush rfl rfl ?_
              refine q_iload_n rfl rfl rfl ?_
              refine q_imul rfl rfl (q_tn (z := (-1806015097)) rfl ?_)
              refine q_aload_n rfl rfl rfl ?_
              refine q_getf rfl rfl (by decide) rfl rfl ?_
              refine q_iload_n rfl rfl rfl ?_
              refine q_iald rfl rfl (by decide) rfl (by decide) (q_tn (z := 0) rfl ?_)
              refine q_iadd rfl rfl (q_tn (z := (-1806015097)) rfl ?_)
              refine q_ist2n rfl rfl rfl rfl ?_
              refine q_icc3 (z := 6) rfl rfl rfl rfl rfl ?_
              refine q_goto rfl ?_
              refine q_iload_n rfl rfl rfl ?_
              refine q_bipush rfl rfl ?_
              refine q_icge rfl rfl (fun c614 => absurd c614 (by decide)) (fun c614 => ?_)
              refine q_bipush rfl rfl ?_
              refine q_iload_n rfl rfl rfl ?_
              refine q_imul rfl rfl (q_tn (z := (-151893159)) rfl ?_)
              refine q_aload_n rfl rfl rfl ?_
              refine q_getf rfl rfl (by decide) rfl rfl ?_
              refine q_iload_n rfl rfl rfl ?_
              refine q_iald rfl rfl (by decide) rfl (by decide) (q_tn (z := 0) rfl ?_)
              refine q_iadd rfl rfl (q_tn (z := (-151893159)) rfl ?_)
              refine q_ist2n rfl rfl rfl rfl ?_
              refine q_icc3 (z := 7) rfl rfl rfl rfl rfl ?_
              refine q_goto rfl ?_
              refine q_iload_n rfl rfl rfl ?_
              refine q_bipush rfl rfl ?_
              refine q_icge rfl rfl (fun c615 => absurd c615 (by decide)) (fun c615 => ?_)
              refine q_bipush rfl rfl ?_
              refine q_iload_n rfl rfl rfl ?_
              refine q_imul rfl rfl (q_tn (z := (-413720633)) rfl ?_)
              refine q_aload_n rfl rfl rfl ?_
              refine q_getf rfl rfl (by decide) rfl rfl ?_
              refine q_iload_n rfl rfl rfl ?_
              refine q_iald rfl rfl (by decide) rfl (by decide) (q_tn (z := 0) rfl ?_)
              refine q_iadd rfl rfl (q_tn (z := (-413720633)) rfl ?_)
              refine q_ist2n rfl rfl rfl rfl ?_
              refine q_icc3 (z := 8) rfl rfl rfl rfl rfl ?_
              refine q_goto rfl ?_
              refine q_iload_n rfl rfl rfl ?_
              refine q_bipush rfl rfl ?_
              refine q_icge rfl rfl (fun c616 => absurd c616 (by decide)) (fun c616 => ?_)
              refine q_bipush rfl rfl ?_
              refine q_iload_n rfl rfl rfl ?_
              refine q_imul rfl rfl (q_tn (z := 59562265) rfl ?_)
              refine q_aload_n rfl rfl rfl ?_
              refine q_getf rfl rfl (by decide) rfl rfl ?_
              refine q_iload_n rfl rfl rfl ?_
              refine q_iald rfl rfl (by decide) rfl (by decide) (q_tn (z := 0) rfl ?_)
              refine q_iadd rfl rfl (q_tn (z := 59562265) rfl ?_)
              refine q_ist2n rfl rfl rfl rfl ?_
              refine q_icc3 (z := 9) rfl rfl rfl rfl rfl ?_
              refine q_goto rfl ?_
              refine q_iload_n rfl rfl rfl ?_
              refine q_bipush rfl rfl ?_
              refine q_icge rfl rfl (fun c617 => absurd c617 (by decide)) (fun c617 => ?_)
              refine q_bipush rfl rfl ?_
              refine q_iload_n rfl rfl rfl ?_
              refine q_imul rfl rfl (q_tn (z := 1846430215) rfl ?_)
              refine q_aload_n rfl rfl rfl ?_
              refine q_getf rfl rfl (by decide) rfl rfl ?_
              refine q_iload_n rfl rfl rfl ?_
              refine q_iald rfl rfl (by decide) rfl (by decide) (q_tn (z := 0) rfl ?_)
              refine q_iadd rfl rfl (q_tn (z := 1846430215) rfl ?_)
              refine q_ist2n rfl rfl rfl rfl ?_
              refine q_icc3 (z := 10) rfl rfl rfl rfl rfl ?_
              refine q_goto rfl ?_
              refine q_iload_n rfl rfl rfl ?_
              refine q_bipush rfl rfl ?_
              refine q_icge rfl rfl (fun c618 => absurd c618 (by decide)) (fun c618 => ?_)
              refine q_bipush rfl rfl ?_
              refine q_iload_n rfl rfl rfl ?_
              refine q_imul rfl rfl (q_tn (z := 1404761817) rfl ?_)
              refine q_aload_n rfl rfl rfl ?_
              refine q_getf rfl rfl (by decide) rfl rfl ?_
              refine q_iload_n rfl rfl rfl ?_
              refine q_iald rfl rfl (by decide) rfl (by decide) (q_tn (z := 0) rfl ?_)
              refine q_iadd rfl rfl (q_tn (z := 1404761817) rfl ?_)
              refine q_ist2n rfl rfl rfl rfl ?_
              refine q_icc3 (z := 11) rfl rfl rfl rfl rfl ?_
              refine q_goto rfl ?_
              refine q_iload_n rfl rfl rfl ?_
              refine q_bipush rfl rfl ?_
              refine q_icge rfl rfl (fun c619 => absurd c619 (by decide)) (fun c619 => ?_)
              refine q_bipush rfl rfl ?_
              refine q_iload_n rfl rfl rfl ?_
              refine q_imul rfl rfl (q_tn (z := 597943367) rfl ?_)
              refine q_aload_n rfl rfl rfl ?_
              refine q_getf rfl rfl (by decide) rfl rfl ?_
              refine q_iload_n rfl rfl rfl ?_
              refine q_iald rfl rfl (by decide) rfl (by decide) (q_tn (z := 0) rfl ?_)
              refine q_iadd rfl rfl (q_tn (z := 597943367) rfl ?_)
              refine q_ist2n rfl rfl rfl rfl ?_
              refine q_icc3 (z := 12) rfl rfl rfl rfl rfl ?_
              refine q_goto rfl ?_
              refine q_iload_n rfl rfl rfl ?_
              refine q_bipush rfl rfl ?_
              refine q_icge rfl rfl (fun c620 => absurd c620 (by decide)) (fun c620 => ?_)
              refine q_bipush rfl rfl ?_
              refine q_iload_n rfl rfl rfl ?_
              refine q_imul rfl rfl (q_tn (z := 1356375193) rfl ?_)
              refine q_aload_n rfl rfl rfl ?_
              refine q_getf rfl rfl (by decide) rfl rfl ?_
              refine q_iload_n rfl rfl rfl ?_
              refine q_iald rfl rfl (by decide) rfl (by decide) (q_tn (z := 0) rfl ?_)
              refine q_iadd rfl rfl (q_tn (z := 1356375193) rfl ?_)
              refine q_ist2n rfl rfl rfl rfl ?_
              refine q_icc3 (z := 13) rfl rfl rfl rfl rfl ?_
              refine q_goto rfl ?_
              refine q_iload_n rfl rfl rfl ?_
              refine q_bipush rfl rfl ?_
              refine q_icge rfl rfl (fun c621 => absurd c621 (by decide)) (fun c621 => ?_)
              refine q_bipush rfl rfl ?_
              refine q_iload_n rfl rfl rfl ?_
              refine q_imul rfl rfl (q_tn (z := (-902041977)) rfl ?_)
              refine q_aload_n rfl rfl rfl ?_
              refine q_getf rfl rfl (by decide) rfl rfl ?_
              refine q_iload_n rfl rfl rfl ?_
              refine q_iald rfl rfl (by decide) rfl (by decide) (q_tn (z := 0) rfl ?_)
              refine q_iadd rfl rfl (q_tn (z := (-902041977)) rfl ?_)
              refine q_ist2n rfl rfl rfl rfl ?_
              refine q_icc3 (z := 14) rfl rfl rfl rfl rfl ?_
              refine q_goto rfl ?_
              refine q_iload_n rfl rfl rfl ?_
              refine q_bipush rfl rfl ?_
              refine q_icge rfl rfl (fun c622 => absurd c622 (by decide)) (fun c622 => ?_)
              refine q_bipush rfl rfl ?_
              refine q_iload_n rfl rfl rfl ?_
              refine q_imul rfl rfl (q_tn (z := 2101469785) rfl ?_)
              refine q_aload_n rfl rfl rfl ?_
              refine q_getf rfl rfl (by decide) rfl rfl ?_
              refine q_iload_n rfl rfl rfl ?_
              refine q_iald rfl rfl (by decide) rfl (by decide) (q_tn (z := 0) rfl ?_)
              refine q_iadd rfl rfl (q_tn (z := 2101469785) rfl ?_)
              refine q_ist2n rfl rfl rfl rfl ?_
              refine q_icc3 (z := 15) rfl rfl rfl rfl rfl ?_
              refine q_goto rfl ?_
              refine q_iload_n rfl rfl rfl ?_
              refine q_bipush rfl rfl ?_
              refine q_icge rfl rfl (fun c623 => absurd c623 (by decide)) (fun c623 => ?_)
              refine q_bipush rfl rfl ?_
              refine q_iload_n rfl rfl rfl ?_
              refine q_imul rfl rfl (q_tn (z := 721053895) rfl ?_)
              refine q_aload_n rfl rfl rfl ?_
              refine q_getf rfl rfl (by decide) rfl rfl ?_
              refine q_iload_n rfl rfl rfl ?_
              refine q_iald rfl rfl (by decide) rfl (by decide) (q_tn (z := 0) rfl ?_)
              refine q_iadd rfl rfl (q_tn (z := 721053895) rfl ?_)
              refine q_ist2n rfl rfl rfl rfl ?_
              refine q_icc3 (z := 16) rfl rfl rfl rfl rfl ?_
              refine q_goto rfl ?_
              refine q_iload_n rfl rfl rfl ?_
              refine q_bipush rfl rfl ?_
              refine q_icge rfl rfl (fun c624 => absurd c624 (by decide)) (fun c624 => ?_)
              refine q_bipush rfl rfl ?_
              refine q_iload_n rfl rfl rfl ?_
              refine q_imul rfl rfl (q_tn (z := 877834265) rfl ?_)
              refine q_aload_n rfl rfl rfl ?_
              refine q_getf rfl rfl (by decide) rfl rfl ?_
              refine q_iload_n rfl rfl rfl ?_
              refine q_iald rfl rfl (by decide) rfl (by decide) (q_tn (z := 0) rfl ?_)
              refine q_iadd rfl rfl (q_tn (z := 877834265) rfl ?_)
              refine q_ist2n rfl rfl rfl rfl ?_
              refine q_icc3 (z := 17) rfl rfl rfl rfl rfl ?_
              refine q_goto rfl ?_
              refine q_iload_n rfl rfl rfl ?_
              refine q_bipush rfl rfl ?_
              refine q_icge rfl rfl (fun c625 => absurd c625 (by decide)) (fun c625 => ?_)
              refine q_bipush rfl rfl ?_
              refine q_iload_n rfl rfl rfl ?_
              refine q_imul rfl rfl (q_tn (z := 1443058439) rfl ?_)
              refine q_aload_n rfl rfl rfl ?_
              refine q_getf rfl rfl (by decide) rfl rfl ?_
              refine q_iload_n rfl rfl rfl ?_
              refine q_iald rfl rfl (by decide) rfl (by decide) (q_tn (z := 0) rfl ?_)
              refine q_iadd rfl rfl (q_tn (z := 1443058439) rfl ?_)
              refine q_ist2n rfl rfl rfl rfl ?_
              refine q_icc3 (z := 18) rfl rfl rfl rfl rfl ?_
              refine q_goto rfl ?_
              refine q_iload_n rfl rfl rfl ?_
              refine q_bipush rfl rfl ?_
              refine q_icge rfl rfl (fun c626 => absurd c626 (by decide)) (fun c626 => ?_)
              refine q_bipush rfl rfl ?_
              refine q_iload_n rfl rfl rfl ?_
              refine q_imul rfl rfl (q_tn (z := 1785138649) rfl ?_)
              refine q_aload_n rfl rfl rfl ?_
              refine q_getf rfl rfl (by decide) rfl rfl ?_
              refine q_iload_n rfl rfl rfl ?_
              refine q_iald rfl rfl (by decide) rfl (by decide) (q_tn (z := 0) rfl ?_)
              refine q_iadd rfl rfl (q_tn (z := 1785138649) rfl ?_)
              refine q_ist2n rfl rfl rfl rfl ?_
              refine q_icc3 (z := 19) rfl rfl rfl rfl rfl ?_
              refine q_goto rfl ?_
              refine q_iload_n rfl rfl rfl ?_
              refine q_bipush rfl rfl ?_
              refine q_icge rfl rfl (fun c627 => absurd c627 (by decide)) (fun c627 => ?_)
              refine q_bipush rfl rfl ?_
              refine q_iload_n rfl rfl rfl ?_
              refine q_imul rfl rfl (q_tn (z := (-495276729)) rfl ?_)
              refine q_aload_n rfl rfl rfl ?_
              refine q_getf rfl rfl (by decide) rfl rfl ?_
              refine q_iload_n rfl rfl rfl ?_
              refine q_iald rfl rfl (by decide) rfl (by decide) (q_tn (z := 0) rfl ?_)
              refine q_iadd rfl rfl (q_tn (z := (-495276729)) rfl ?_)
              refine q_ist2n rfl rfl rfl rfl ?_
              refine q_icc3 (z := 20) rfl rfl rfl rfl rfl ?_
              refine q_goto rfl ?_
              refine q_iload_n rfl rfl rfl ?_
              refine q_bipush rfl rfl ?_
              refine q_icge rfl rfl (fun c628 => ?_) (fun c628 => absurd (by decide) c628)
              refine q_sipush rfl rfl ?_
              refine q_iload_n rfl rfl rfl ?_
              refine q_imul rfl rfl (q_tn (z := 8192) rfl ?_)
              refine q_iload_n rfl rfl rfl ?_
              refine q_iload_n rfl rfl rfl ?_
              refine q_bipush rfl rfl ?_
              refine q_iushr rfl rfl (q_tn (z := 463829) rfl ?_)
              refine q_ixor rfl rfl (q_tn (z := (-495075694)) rfl ?_)
              refine q_sipush rfl rfl ?_
              refine q_irem rfl rfl (by decide) (q_tn (z := (-366)) rfl ?_)
              refine q_iload_n rfl rfl rfl ?_
              refine q_iload_n rfl rfl rfl ?_
              refine q_bipush rfl rfl ?_
              refine q_iushr rfl rfl (q_tn (z := 463829) rfl ?_)
              refine q_ixor rfl rfl (q_tn (z := (-495075694)) rfl ?_)
              refine q_sipush rfl rfl ?_
              refine q_irem rfl rfl (by decide) (q_tn (z := (-366)) rfl ?_)
              refine q_ifge rfl rfl (fun c629 => absurd c629 (by decide)) (fun c629 => ?_)
              refine q_iconst rfl rfl ?_
              refine q_goto rfl ?_
              refine q_imul rfl rfl (q_tn (z := 366) rfl ?_)
              refine q_iadd rfl rfl (q_tn (z := 8558) rfl ?_)
              refine q_iret rfl rfl trivial ?_
              refine ⟨_, rfl, ?_⟩
              refine q_ist6 rfl rfl rfl rfl ?_
              refine q_aload_n rfl rfl rfl ?_
              refine q_getf rfl rfl (by decide) rfl rfl ?_
              refine q_iload rfl rfl rfl ?_
              refine q_aload_n rfl rfl rfl ?_
              refine q_getf rfl rfl (by decide) rfl rfl ?_
              refine q_iload rfl rfl rfl ?_
              refine q_iald rfl rfl (by decide) rfl (by decide) (q_tn (z := (-1)) rfl ?_)
              refine q_iast rfl rfl (by decide) rfl (by decide) ?_
              refine q_aload_n rfl rfl rfl ?_
              refine q_getf rfl rfl (by decide) rfl rfl ?_
              refine q_iload rfl rfl rfl ?_
              refine q_iload rfl rfl rfl ?_
              refine q_iast rfl rfl (by decide) rfl (by decide) ?_
              refine q_aload_n rfl rfl rfl ?_
              refine q_getf rfl rfl (by decide) rfl rfl ?_
              refine q_iload_n rfl rfl rfl ?_
              refine q_dup2 rfl rfl ?_
              refine q_iald rfl rfl (by decide) rfl (by decide) (q_tn (z := 0) rfl ?_)
              refine q_iconst rfl rfl ?_
              refine q_iadd rfl rfl (q_tn (z := 1) rfl ?_)
              refine q_iast rfl rfl (by decide) rfl (by decide) ?_
              refine q_iload rfl rfl rfl ?_
              refine q_iret rfl rfl trivial ?_
              refine ⟨_, rfl, ?_⟩
              refine q_ist3n rfl rfl rfl rfl ?_
              refine q_iconst rfl rfl ?_
              refine q_ist4 rfl rfl rfl rfl ?_
              refine q_iload rfl rfl rfl ?_
              refine q_aload_n rfl rfl rfl ?_
              refine q_getf rfl rfl (by decide) rfl rfl ?_
              refine q_iload_n rfl rfl rfl ?_
              refine q_iald rfl rfl (by decide) rfl (by decide) (q_tn (z := 1) rfl ?_)
              refine q_icge rfl rfl (fun c630 => absurd c630 (by decide)) (fun c630 => ?_)
              refine q_iconst rfl rfl ?_
              refine q_ist5 rfl rfl rfl rfl ?_
              refine q_iload rfl rfl rfl ?_
              refine q_iconst rfl rfl ?_
              refine q_icge rfl rfl (fun c631 => absurd c631 (by decide)) (fun c631 => ?_)
              refine q_iconst rfl rfl ?_
              refine q_sipush rfl rfl ?_
              refine q_iload_n rfl rfl rfl ?_
              refine q_imul rfl rfl (q_tn (z := 2000) rfl ?_)
              refine q_iload rfl rfl rfl ?_
              refine q_iadd rfl rfl (q_tn (z := 2000) rfl ?_)
              refine q_imul rfl rfl (q_tn (z := 6000) rfl ?_)
              refine q_iload rfl rfl rfl ?_
              refine q_iadd rfl rfl (q_tn (z := 6000) rfl ?_)
              refine q_ist6 rfl rfl rfl rfl ?_
              refine q_aload_n rfl rfl rfl ?_
              refine q_getf rfl rfl (by decide) rfl rfl ?_
              refine q_iload rfl rfl rfl ?_
              refine q_iconst rfl rfl ?_
              refine q_iast rfl rfl (by decide) rfl (by decide) ?_
              refine q_aload_n rfl rfl rfl ?_
              refine q_iload_n rfl rfl rfl ?_
              refine q_iload rfl rfl rfl ?_
              refine q_cV2v rfl rfl (Or.inl rfl) rfl rfl rfl (by decide) rfl ⟨rfl, rfl⟩ rfl (fun K' hK' => l_sa (R := 1) (by decide) rfl (by decide) rfl rfl rfl rfl rfl hK') ?_
              refine q_iload rfl rfl rfl ?_
              refine q_aload_n rfl rfl rfl ?_
              refine q_getf rfl rfl (by decide) rfl rfl ?_
              refine q_icge rfl rfl (fun c632 => absurd c632 (by decide)) (fun c632 => ?_)
              refine q_aload_n rfl rfl rfl ?_
              refine q_iload rfl rfl rfl ?_
              refine q_iload_n rfl rfl rfl ?_
              refine q_nV2 rfl rfl (Or.inl rfl) rfl rfl rfl (by decide) rfl ⟨rfl, rfl⟩ rfl ?_
              change PQ _ _ _ mm_X12_maySteps 0 [.ref 46, .int 0, .int 4, pm_un, pm_un, pm_un] [] _ _ 0 0 _
              refine q_aload_n rfl rfl rfl ?_
              refine q_iload_n rfl rfl rfl ?_
              refine q_iload_n rfl rfl rfl ?_
              refine q_nV2 rfl rfl (Or.inl rfl) rfl rfl rfl (by decide) rfl ⟨rfl, rfl⟩ rfl ?_
              change PQ _ _ _ mm_X12_canStep 0 [.ref 46, .int 0, .int 4, pm_un] [] _ _ 0 0 _
              refine q_aload_n rfl rfl rfl ?_
              refine q_iload_n rfl rfl rfl ?_
              refine q_nV1 rfl rfl (Or.inl rfl) rfl rfl rfl (by decide) rfl ⟨rfl, rfl⟩ rfl ?_
              change PQ _ _ _ mm_X12_isOver 0 [.ref 46, .int 0] [] _ _ 0 0 _
              refine q_aload_n rfl rfl rfl ?_
              refine q_getf rfl rfl (by decide) rfl rfl ?_
              refine q_iconst rfl rfl ?_
              refine q_iload_n rfl rfl rfl ?_
              refine q_imul rfl rfl (q_tn (z := 0) rfl ?_)
              refine q_iald rfl rfl (by decide) rfl (by decide) (q_tn (z := 10) rfl ?_)
              refine q_bipush rfl rfl ?_
              refine q_iclt rfl rfl (fun c633 => absurd c633 (by decide)) (fun c633 => ?_)
              refine q_iconst rfl rfl ?_
              refine q_goto rfl ?_
              refine q_iret rfl rfl rfl ?_
              refine ⟨_, rfl, ?_⟩
              refine q_ifeq rfl rfl (fun c634 => absurd c634 (by decide)) (fun c634 => ?_)
              refine q_iconst rfl rfl ?_
              refine q_iret rfl rfl rfl ?_
              refine ⟨_, rfl, ?_⟩
              refine q_ifne rfl rfl (fun c635 => ?_) (fun c635 => absurd (by decide) c635)
              refine q_iconst rfl rfl ?_
              refine q_iret rfl rfl rfl ?_
              refine ⟨_, rfl, ?_⟩
              refine q_ifne rfl rfl (fun c636 => ?_) (fun c636 => absurd (by decide) c636)
              refine q_goto rfl ?_
              refine q_icc5 (z := 1) rfl rfl rfl rfl rfl ?_
              refine q_goto rfl ?_
              refine q_iload rfl rfl rfl ?_
              refine q_iconst rfl rfl ?_
              refine q_icge rfl rfl (fun c637 => absurd c637 (by decide)) (fun c637 => ?_)
              refine q_iconst rfl rfl ?_
              refine q_sipush rfl rfl ?_
              refine q_iload_n rfl rfl rfl ?_
              refine q_imul rfl rfl (q_tn (z := 2000) rfl ?_)
              refine q_iload rfl rfl rfl ?_
              refine q_iadd rfl rfl (q_tn (z := 2000) rfl ?_)
              refine q_imul rfl rfl (q_tn (z := 6000) rfl ?_)
              refine q_iload rfl rfl rfl ?_
              refine q_iadd rfl rfl (q_tn (z := 6001) rfl ?_)
              refine q_ist6 rfl rfl rfl rfl ?_
              refine q_aload_n rfl rfl rfl ?_
              refine q_getf rfl rfl (by decide) rfl rfl ?_
              refine q_iload rfl rfl rfl ?_
              refine q_iconst rfl rfl ?_
              refine q_iast rfl rfl (by decide) rfl (by decide) ?_
              refine q_aload_n rfl rfl rfl ?_
              refine q_iload_n rfl rfl rfl ?_
              refine q_iload rfl rfl rfl ?_
              refine q_cV2v rfl rfl (Or.inl rfl) rfl rfl rfl (by decide) rfl ⟨rfl, rfl⟩ rfl (fun K' hK' => l_sa (R := 1) (by decide) rfl (by decide) rfl rfl rfl rfl rfl hK') ?_
              refine q_iload rfl rfl rfl ?_
              refine q_aload_n rfl rfl rfl ?_
              refine q_getf rfl rfl (by decide) rfl rfl ?_
              refine q_icge rfl rfl (fun c638 => ?_) (fun c638 => absurd (by decide) c638)
              refine q_icc5 (z := 2) rfl rfl rfl rfl rfl ?_
              refine q_goto rfl ?_
              refine q_iload rfl rfl rfl ?_
              refine q_iconst rfl rfl ?_
              refine q_icge rfl rfl (fun c639 => absurd c639 (by decide)) (fun c639 => ?_)
              refine q_iconst rfl rfl ?_
              refine q_sipush rfl rfl ?_
              refine q_iload_n rfl rfl rfl ?_
              refine q_imul rfl rfl (q_tn (z := 2000) rfl ?_)
              refine q_iload rfl rfl rfl ?_
              refine q_iadd rfl rfl (q_tn (z := 2000) rfl ?_)
              refine q_imul rfl rfl (q_tn (z := 6000) rfl ?_)
              refine q_iload rfl rfl rfl ?_
              refine q_iadd rfl rfl (q_tn (z := 6002) rfl ?_)
              refine q_ist6 rfl rfl rfl rfl ?_
              refine q_aload_n rfl rfl rfl ?_
              refine q_getf rfl rfl (by decide) rfl rfl ?_
              refine q_iload rfl rfl rfl ?_
              refine q_iconst rfl rfl ?_
              refine q_iast rfl rfl (by decide) rfl (by decide) ?_
              refine q_aload_n rfl rfl rfl ?_
              refine q_iload_n rfl rfl rfl ?_
              refine q_iload rfl rfl rfl ?_
              refine q_cV2v rfl rfl (Or.inl rfl) rfl rfl rfl (by decide) rfl ⟨rfl, rfl⟩ rfl (fun K' hK' => l_sa (R := 1) (by decide) rfl (by decide) rfl rfl rfl rfl rfl hK') ?_
              refine q_iload rfl rfl rfl ?_
              refine q_aload_n rfl rfl rfl ?_
              refine q_getf rfl rfl (by decide) rfl rfl ?_
              refine q_icge rfl rfl (fun c640 => ?_) (fun c640 => absurd (by decide) c640)
              refine q_icc5 (z := 3) rfl rfl rfl rfl rfl ?_
              refine q_goto rfl ?_
              refine q_iload rfl rfl rfl ?_
              refine q_iconst rfl rfl ?_
              refine q_icge rfl rfl (fun c641 => ?_) (fun c641 => absurd (by decide) c641)
              refine q_icc4 (z := 1) rfl rfl rfl rfl rfl ?_
              refine q_goto rfl ?_
              refine q_iload rfl rfl rfl ?_
              refine q_aload_n rfl rfl rfl ?_
              refine q_getf rfl rfl (by decide) rfl rfl ?_
              refine q_iload_n rfl rfl rfl ?_
              refine q_iald rfl rfl (by decide) rfl (by decide) (q_tn (z := 1) rfl ?_)
              refine q_icge rfl rfl (fun c642 => ?_) (fun c642 => absurd (by decide) c642)
              refine q_iconst rfl rfl ?_
              refine q_iret rfl rfl rfl ?_
              refine ⟨_, rfl, ?_⟩
              refine q_ifeq rfl rfl (fun c643 => absurd c643 (by decide)) (fun c643 => ?_)
              refine q_iconst rfl rfl ?_
              refine q_goto rfl ?_
              refine q_iast rfl rfl (by decide) rfl (by decide) ?_
              refine q_iload_n rfl rfl rfl ?_
              refine q_ifne rfl rfl (fun c644 => absurd c644 (by decide)) (fun c644 => ?_)
              refine q_aload_n rfl rfl rfl ?_
              refine q_getf rfl rfl (by decide) rfl rfl ?_
              refine q_iload_n rfl rfl rfl ?_
              refine q_aload_n rfl rfl rfl ?_
              refine q_getf rfl rfl (by decide) rfl rfl ?_
              refine q_iload_n rfl rfl rfl ?_
              refine q_iald rfl rfl (by decide) rfl (by decide) (q_tn (z := 1) rfl ?_)
              refine q_iast rfl rfl (by decide) rfl (by decide) ?_
              refine q_iconst rfl rfl ?_
              refine q_ist3n rfl rfl rfl rfl ?_
              refine q_iload_n rfl rfl rfl ?_
              refine q_iconst rfl rfl ?_
              refine q_icge rfl rfl (fun c645 => absurd c645 (by decide)) (fun c645 => ?_)
              refine q_aload_n rfl rfl rfl ?_
              refine q_getf rfl rfl (by decide) rfl rfl ?_
              refine q_iconst rfl rfl ?_
              refine q_iload_n rfl rfl rfl ?_
              refine q_imul rfl rfl (q_tn (z := 16) rfl ?_)
              refine q_iload_n rfl rfl rfl ?_
              refine q_iadd rfl rfl (q_tn (z := 16) rfl ?_)
              refine q_iconst rfl rfl ?_
              refine q_iast rfl rfl (by decide) rfl (by decide) ?_
              refine q_icc3 (z := 1) rfl rfl rfl rfl rfl ?_
              refine q_goto rfl ?_
              refine q_iload_n rfl rfl rfl ?_
              refine q_iconst rfl rfl ?_
              refine q_icge rfl rfl (fun c646 => absurd c646 (by decide)) (fun c646 => ?_)
              refine q_aload_n rfl rfl rfl ?_
              refine q_getf rfl rfl (by decide) rfl rfl ?_
              refine q_iconst rfl rfl ?_
              refine q_iload_n rfl rfl rfl ?_
              refine q_imul rfl rfl (q_tn (z := 16) rfl ?_)
              refine q_iload_n rfl rfl rfl ?_
              refine q_iadd rfl rfl (q_tn (z := 17) rfl ?_)
              refine q_iconst rfl rfl ?_
              refine q_iast rfl rfl (by decide) rfl (by decide) ?_
              refine q_icc3 (z := 2) rfl rfl rfl rfl rfl ?_
              refine q_goto rfl ?_
              refine q_iload_n rfl rfl rfl ?_
              refine q_iconst rfl rfl ?_
              as_aux_lemma =>
                refine q_icge rfl rfl (fun c647 => absurd c647 (by decide)) (fun c647 => ?_)
                refine q_aload_n rfl rfl rfl ?_
                refine q_getf rfl rfl (by decide) rfl rfl ?_
                refine q_iconst rfl rfl ?_
                refine q_iload_n rfl rfl rfl ?_
                refine q_imul rfl rfl (q_tn (z := 16) rfl ?_)
                refine q_iload_n rfl rfl rfl ?_
                refine q_iadd rfl rfl (q_tn (z := 18) rfl ?_)
                refine q_iconst rfl rfl ?_
                refine q_iast rfl rfl (by decide) rfl (by decide) ?_
                refine q_icc3 (z := 3) rfl rfl rfl rfl rfl ?_
                refine q_goto rfl ?_
                refine q_iload_n rfl rfl rfl ?_
                refine q_iconst rfl rfl ?_
                refine q_icge rfl rfl (fun c648 => absurd c648 (by decide)) (fun c648 => ?_)
                refine q_aload_n rfl rfl rfl ?_
                refine q_getf rfl rfl (by decide) rfl rfl ?_
                refine q_iconst rfl rfl ?_
                refine q_iload_n rfl rfl rfl ?_
                refine q_imul rfl rfl (q_tn (z := 16) rfl ?_)
                refine q_iload_n rfl rfl rfl ?_
                refine q_iadd rfl rfl (q_tn (z := 19) rfl ?_)
                refine q_iconst rfl rfl ?_
                refine q_iast rfl rfl (by decide) rfl (by decide) ?_
                refine q_icc3 (z := 4) rfl rfl rfl rfl rfl ?_
                refine q_goto rfl ?_
                refine q_iload_n rfl rfl rfl ?_
                refine q_iconst rfl rfl ?_
                refine q_icge rfl rfl (fun c649 => ?_) (fun c649 => absurd (by decide) c649)
                refine q_iconst rfl rfl ?_
                refine q_ist3n rfl rfl rfl rfl ?_
                refine q_iload_n rfl rfl rfl ?_
                refine q_aload_n rfl rfl rfl ?_
                refine q_getf rfl rfl (by decide) rfl rfl ?_
                refine q_iload_n rfl rfl rfl ?_
                refine q_iald rfl rfl (by decide) rfl (by decide) (q_tn (z := 1) rfl ?_)
                refine q_icge rfl rfl (fun c650 => absurd c650 (by decide)) (fun c650 => ?_)
                refine q_aload_n rfl rfl rfl ?_
                refine q_iload_n rfl rfl rfl ?_
                refine q_iload_n rfl rfl rfl ?_
                refine q_cV2v rfl rfl (Or.inl rfl) rfl rfl rfl (by decide) rfl ⟨rfl, rfl⟩ rfl (fun K' hK' => l_sa (R := 1) (by decide) rfl (by decide) rfl rfl rfl rfl rfl hK') ?_
                refine q_aload_n rfl rfl rfl ?_
                refine q_nV0 rfl rfl (Or.inl rfl) rfl rfl rfl (by decide) rfl ⟨rfl, rfl⟩ rfl ?_
                change PQ _ _ _ mm_X12_isEnd 0 [.ref 46, pm_un, pm_un] [] _ _ 0 0 _
                refine q_iconst rfl rfl ?_
                refine q_ist1n rfl rfl rfl rfl ?_
                refine q_iconst rfl rfl ?_
                refine q_ist2n rfl rfl rfl rfl ?_
                refine q_iload_n rfl rfl rfl ?_
                refine q_aload_n rfl rfl rfl ?_
                refine q_getf rfl rfl (by decide) rfl rfl ?_
                refine q_icge rfl rfl (fun c651 => absurd c651 (by decide)) (fun c651 => ?_)
                refine q_iload_n rfl rfl rfl ?_
                refine q_ifeq rfl rfl (fun c652 => absurd c652 (by decide)) (fun c652 => ?_)
                refine q_aload_n rfl rfl rfl ?_
                refine q_iload_n rfl rfl rfl ?_
                refine q_nV1 rfl rfl (Or.inl rfl) rfl rfl rfl (by decide) rfl ⟨rfl, rfl⟩ rfl ?_
                change PQ _ _ _ mm_X12_isOver 0 [.ref 46, .int 0] [] _ _ 0 0 _
                refine q_aload_n rfl rfl rfl ?_
                refine q_getf rfl rfl (by decide) rfl rfl ?_
                refine q_iconst rfl rfl ?_
                refine q_iload_n rfl rfl rfl ?_
                refine q_imul rfl rfl (q_tn (z := 0) rfl ?_)
                refine q_iald rfl rfl (by decide) rfl (by decide) (q_tn (z := 10) rfl ?_)
                refine q_bipush rfl rfl ?_
                refine q_iclt rfl rfl (fun c653 => absurd c653 (by decide)) (fun c653 => ?_)
                refine q_iconst rfl rfl ?_
                refine q_goto rfl ?_
                refine q_iret rfl rfl rfl ?_
                refine ⟨_, rfl, ?_⟩
                refine q_ifeq rfl rfl (fun c654 => absurd c654 (by decide)) (fun c654 => ?_)
                refine q_iconst rfl rfl ?_
                refine q_goto rfl ?_
                refine q_ist1n rfl rfl rfl rfl ?_
                refine q_icc2 (z := 1) rfl rfl rfl rfl rfl ?_
                refine q_goto rfl ?_
                refine q_iload_n rfl rfl rfl ?_
                refine q_aload_n rfl rfl rfl ?_
                refine q_getf rfl rfl (by decide) rfl rfl ?_
                refine q_icge rfl rfl (fun c655 => ?_) (fun c655 => absurd (by decide) c655)
                refine q_iload_n rfl rfl rfl ?_
                refine q_iret rfl rfl rfl ?_
                refine ⟨_, rfl, ?_⟩
                refine q_ifne rfl rfl (fun c656 => absurd c656 (by decide)) (fun c656 => ?_)
                refine q_iconst rfl rfl ?_
                refine q_ist4 rfl rfl rfl rfl ?_
                refine q_iload rfl rfl rfl ?_
                refine q_iconst rfl rfl ?_
                refine q_icge rfl rfl (fun c657 => absurd c657 (by decide)) (fun c657 => ?_)
                refine q_aload_n rfl rfl rfl ?_
                refine q_getf rfl rfl (by decide) rfl rfl ?_
                refine q_iconst rfl rfl ?_
                refine q_iload_n rfl rfl rfl ?_
                refine q_imul rfl rfl (q_tn (z := 16) rfl ?_)
                refine q_iload rfl rfl rfl ?_
                refine q_iadd rfl rfl (q_tn (z := 16) rfl ?_)
                refine q_dup2 rfl rfl ?_
                refine q_iald rfl rfl (by decide) rfl (by decide) (q_tn (z := 0) rfl ?_)
                refine q_iconst rfl rfl ?_
                refine q_aload_n rfl rfl rfl ?_
                refine q_getf rfl rfl (by decide) rfl rfl ?_
                refine q_bipush rfl rfl ?_
                refine q_iload rfl rfl rfl ?_
                refine q_iadd rfl rfl (q_tn (z := 12) rfl ?_)
                refine q_iald rfl rfl (by decide) rfl (by decide) (q_tn (z := 0) rfl ?_)
                refine q_ishl rfl rfl (q_tn (z := 1) rfl ?_)
                refine q_ior rfl rfl (q_tn (z := 1) rfl ?_)
                refine q_iast rfl rfl (by decide) rfl (by decide) ?_
                refine q_icc4 (z := 1) rfl rfl rfl rfl rfl ?_
                refine q_goto rfl ?_
                refine q_iload rfl rfl rfl ?_
                refine q_iconst rfl rfl ?_
                refine q_icge rfl rfl (fun c658 => absurd c658 (by decide)) (fun c658 => ?_)
                refine q_aload_n rfl rfl rfl ?_
                refine q_getf rfl rfl (by decide) rfl rfl ?_
                refine q_iconst rfl rfl ?_
                refine q_iload_n rfl rfl rfl ?_
                refine q_imul rfl rfl (q_tn (z := 16) rfl ?_)
                refine q_iload rfl rfl rfl ?_
                refine q_iadd rfl rfl (q_tn (z := 17) rfl ?_)
                refine q_dup2 rfl rfl ?_
                refine q_iald rfl rfl (by decide) rfl (by decide) (q_tn (z := 0) rfl ?_)
                refine q_iconst rfl rfl ?_
                refine q_aload_n rfl rfl rfl ?_
                refine q_getf rfl rfl (by decide) rfl rfl ?_
                refine q_bipush rfl rfl ?_
                refine q_iload rfl rfl rfl ?_
                refine q_iadd rfl rfl (q_tn (z := 13) rfl ?_)
                refine q_iald rfl rfl (by decide) rfl (by decide) (q_tn (z := 0) rfl ?_)
                refine q_ishl rfl rfl (q_tn (z := 1) rfl ?_)
                refine q_ior rfl rfl (q_tn (z := 1) rfl ?_)
                refine q_iast rfl rfl (by decide) rfl (by decide) ?_
                refine q_icc4 (z := 2) rfl rfl rfl rfl rfl ?_
                refine q_goto rfl ?_
                refine q_iload rfl rfl rfl ?_
                refine q_iconst rfl rfl ?_
                refine q_icge rfl rfl (fun c659 => absurd c659 (by decide)) (fun c659 => ?_)
                refine q_aload_n rfl rfl rfl ?_
                refine q_getf rfl rfl (by decide) rfl rfl ?_
                refine q_iconst rfl rfl ?_
                refine q_iload_n rfl rfl rfl ?_
                refine q_imul rfl rfl (q_tn (z := 16) rfl ?_)
                refine q_iload rfl rfl rfl ?_
                refine q_iadd rfl rfl (q_tn (z := 18) rfl ?_)
                refine q_dup2 rfl rfl ?_
                refine q_iald rfl rfl (by decide) rfl (by decide) (q_tn (z := 0) rfl ?_)
                refine q_iconst rfl rfl ?_
                refine q_aload_n rfl rfl rfl ?_
                refine q_getf rfl rfl (by decide) rfl rfl ?_
                refine q_bipush rfl rfl ?_
                refine q_iload rfl rfl rfl ?_
                refine q_iadd rfl rfl (q_tn (z := 14) rfl ?_)
                refine q_iald rfl rfl (by decide) rfl (by decide) (q_tn (z := 0) rfl ?_)
                refine q_ishl rfl rfl (q_tn (z := 1) rfl ?_)
                refine q_ior rfl rfl (q_tn (z := 1) rfl ?_)
                refine q_iast rfl rfl (by decide) rfl (by decide) ?_
                refine q_icc4 (z := 3) rfl rfl rfl rfl rfl ?_
                refine q_goto rfl ?_
                refine q_iload rfl rfl rfl ?_
                refine q_iconst rfl rfl ?_
                refine q_icge rfl rfl (fun c660 => absurd c660 (by decide)) (fun c660 => ?_)
                refine q_aload_n rfl rfl rfl ?_
                refine q_getf rfl rfl (by decide) rfl rfl ?_
                refine q_iconst rfl rfl ?_
                refine q_iload_n rfl rfl rfl ?_
                refine q_imul rfl rfl (q_tn (z := 16) rfl ?_)
                refine q_iload rfl rfl rfl ?_
                refine q_iadd rfl rfl (q_tn (z := 19) rfl ?_)
                refine q_dup2 rfl rfl ?_
                refine q_iald rfl rfl (by decide) rfl (by decide) (q_tn (z := 0) rfl ?_)
                refine q_iconst rfl rfl ?_
                refine q_aload_n rfl rfl rfl ?_
                refine q_getf rfl rfl (by decide) rfl rfl ?_
                refine q_bipush rfl rfl ?_
                refine q_iload rfl rfl rfl ?_
                refine q_iadd rfl rfl (q_tn (z := 15) rfl ?_)
                refine q_iald rfl rfl (by decide) rfl (by decide) (q_tn (z := 0) rfl ?_)
                refine q_ishl rfl rfl (q_tn (z := 1) rfl ?_)
                refine q_ior rfl rfl (q_tn (z := 1) rfl ?_)
                refine q_iast rfl rfl (by decide) rfl (by decide) ?_
                refine q_icc4 (z := 4) rfl rfl rfl rfl rfl ?_
                refine q_goto rfl ?_
                refine q_iload rfl rfl rfl ?_
                refine q_iconst rfl rfl ?_
                refine q_icge rfl rfl (fun c661 => ?_) (fun c661 => absurd (by decide) c661)
                refine q_icc3 (z := 1) rfl rfl rfl rfl rfl ?_
                refine q_goto rfl ?_
                refine q_iload_n rfl rfl rfl ?_
                refine q_aload_n rfl rfl rfl ?_
                refine q_getf rfl rfl (by decide) rfl rfl ?_
                refine q_iload_n rfl rfl rfl ?_
                refine q_iald rfl rfl (by decide) rfl (by decide) (q_tn (z := 1) rfl ?_)
                refine q_icge rfl rfl (fun c662 => ?_) (fun c662 => absurd (by decide) c662)
                refine q_aload_n rfl rfl rfl ?_
                refine q_getf rfl rfl (by decide) rfl rfl ?_
                refine q_iload_n rfl rfl rfl ?_
                refine q_iald rfl rfl (by decide) rfl (by decide) (q_tn (z := 1) rfl ?_)
                refine q_iconst rfl rfl ?_
                refine q_icne rfl rfl (fun c663 => absurd c663 (by decide)) (fun c663 => ?_)
                refine q_iconst rfl rfl ?_
                refine q_iret rfl rfl rfl ?_
                refine ⟨_, rfl, ?_⟩
                refine q_ifne rfl rfl (fun c664 => ?_) (fun c664 => absurd (by decide) c664)
                refine q_iload_n rfl rfl rfl ?_
                refine q_ifeq rfl rfl (fun c665 => ?_) (fun c665 => absurd (by decide) c665)
                refine q_iconst rfl rfl ?_
                refine q_ist1n rfl rfl rfl rfl ?_
                refine q_icc2 (z := 5) rfl rfl rfl rfl rfl ?_
                refine q_goto rfl ?_
                refine q_iload_n rfl rfl rfl ?_
                refine q_iconst rfl rfl ?_
                refine q_icge rfl rfl (fun c666 => ?_) (fun c666 => absurd (by decide) c666)
                refine q_iload_n rfl rfl rfl ?_
                refine q_iret rfl rfl rfl ?_
                refine ⟨_, rfl, ?_⟩
                refine q_ifeq rfl rfl (fun c667 => ?_) (fun c667 => absurd (by decide) c667)
                refine q_aload_n rfl rfl rfl ?_
                refine q_nV0 rfl rfl (Or.inl rfl) rfl rfl rfl (by decide) rfl ⟨rfl, rfl⟩ rfl ?_
                change PQ _ _ _ mm_X12_cheapest 0 [.ref 46, pm_un, pm_un, pm_un] [] _ _ 0 0 _
                refine q_iconst rfl rfl ?_
                refine q_ist1n rfl rfl rfl rfl ?_
                refine q_bipush rfl rfl ?_
                refine q_ist2n rfl rfl rfl rfl ?_
                refine q_iconst rfl rfl ?_
                refine q_ist3n rfl rfl rfl rfl ?_
                refine q_iload_n rfl rfl rfl ?_
                refine q_iconst rfl rfl ?_
                refine q_icge rfl rfl (fun c668 => absurd c668 (by decide)) (fun c668 => ?_)
                refine q_aload_n rfl rfl rfl ?_
                refine q_iload_n rfl rfl rfl ?_
                refine q_cV1 rfl rfl (Or.inl rfl) rfl rfl rfl (by decide) rfl ⟨rfl, rfl⟩ rfl (fun K' hK' => l_cost (by decide) rfl rfl ((FM_74 hM).trans (FW_74 S hW)) fM40_2 hK') ?_
                refine q_iload_n rfl rfl rfl ?_
                refine q_icge rfl rfl (fun c669 => absurd c669 (by decide)) (fun c669 => ?_)
                refine q_aload_n rfl rfl rfl ?_
                refine q_iload_n rfl rfl rfl ?_
                refine q_cV1 rfl rfl (Or.inl rfl) rfl rfl rfl (by decide) rfl ⟨rfl, rfl⟩ rfl (fun K' hK' => l_cost (by decide) rfl rfl ((FM_74 hM).trans (FW_74 S hW)) fM40_2 hK') ?_
                refine q_goto rfl ?_
                refine q_ist2n rfl rfl rfl rfl ?_
                refine q_icc3 (z := 1) rfl rfl rfl rfl rfl ?_
                refine q_goto rfl ?_
                refine q_iload_n rfl rfl rfl ?_
                refine q_iconst rfl rfl ?_
                refine q_icge rfl rfl (fun c670 => absurd c670 (by decide)) (fun c670 => ?_)
                refine q_aload_n rfl rfl rfl ?_
                refine q_iload_n rfl rfl rfl ?_
                refine q_cV1 rfl rfl (Or.inl rfl) rfl rfl rfl (by decide) rfl ⟨rfl, rfl⟩ rfl (fun K' hK' => l_cost (by decide) rfl rfl ((FM_74 hM).trans (FW_74 S hW)) fM40_2 hK') ?_
                refine q_iload_n rfl rfl rfl ?_
                refine q_icge rfl rfl (fun c671 => ?_) (fun c671 => absurd (by decide) c671)
                refine q_iload_n rfl rfl rfl ?_
                refine q_ist2n rfl rfl rfl rfl ?_
                refine q_icc3 (z := 2) rfl rfl rfl rfl rfl ?_
                refine q_goto rfl ?_
                refine q_iload_n rfl rfl rfl ?_
                refine q_iconst rfl rfl ?_
                refine q_icge rfl rfl (fun c672 => absurd c672 (by decide)) (fun c672 => ?_)
                refine q_aload_n rfl rfl rfl ?_
                refine q_iload_n rfl rfl rfl ?_
                refine q_cV1 rfl rfl (Or.inl rfl) rfl rfl rfl (by decide) rfl ⟨rfl, rfl⟩ rfl (fun K' hK' => l_cost (by decide) rfl rfl ((FM_74 hM).trans (FW_74 S hW)) fM40_2 hK') ?_
                refine q_iload_n rfl rfl rfl ?_
                refine q_icge rfl rfl (fun c673 => ?_) (fun c673 => absurd (by decide) c673)
                refine q_iload_n rfl rfl rfl ?_
                refine q_ist2n rfl rfl rfl rfl ?_
                refine q_icc3 (z := 3) rfl rfl rfl rfl rfl ?_
                refine q_goto rfl ?_
                refine q_iload_n rfl rfl rfl ?_
                refine q_iconst rfl rfl ?_
                refine q_icge rfl rfl (fun c674 => absurd c674 (by decide)) (fun c674 => ?_)
                refine q_aload_n rfl rfl rfl ?_
                refine q_iload_n rfl rfl rfl ?_
                refine q_cV1 rfl rfl (Or.inl rfl) rfl rfl rfl (by decide) rfl ⟨rfl, rfl⟩ rfl (fun K' hK' => l_cost (by decide) rfl rfl ((FM_74 hM).trans (FW_74 S hW)) fM40_2 hK') ?_
                refine q_iload_n rfl rfl rfl ?_
                refine q_icge rfl rfl (fun c675 => ?_) (fun c675 => absurd (by decide) c675)
                refine q_iload_n rfl rfl rfl ?_
                refine q_ist2n rfl rfl rfl rfl ?_
                refine q_icc3 (z := 4) rfl rfl rfl rfl rfl ?_
                refine q_goto rfl ?_
                refine q_iload_n rfl rfl rfl ?_
                refine q_iconst rfl rfl ?_
                refine q_icge rfl rfl (fun c676 => absurd c676 (by decide)) (fun c676 => ?_)
                refine q_aload_n rfl rfl rfl ?_
                refine q_iload_n rfl rfl rfl ?_
                refine q_cV1 rfl rfl (Or.inl rfl) rfl rfl rfl (by decide) rfl ⟨rfl, rfl⟩ rfl (fun K' hK' => l_cost (by decide) rfl rfl ((FM_74 hM).trans (FW_74 S hW)) fM40_2 hK') ?_
                refine q_iload_n rfl rfl rfl ?_
                refine q_icge rfl rfl (fun c677 => ?_) (fun c677 => absurd (by decide) c677)
                refine q_iload_n rfl rfl rfl ?_
                refine q_ist2n rfl rfl rfl rfl ?_
                refine q_icc3 (z := 5) rfl rfl rfl rfl rfl ?_
                refine q_goto rfl ?_
                refine q_iload_n rfl rfl rfl ?_
                refine q_iconst rfl rfl ?_
                refine q_icge rfl rfl (fun c678 => ?_) (fun c678 => absurd (by decide) c678)
                refine q_iconst rfl rfl ?_
                refine q_ist3n rfl rfl rfl rfl ?_
                refine q_iload_n rfl rfl rfl ?_
                refine q_iconst rfl rfl ?_
                refine q_icge rfl rfl (fun c679 => absurd c679 (by decide)) (fun c679 => ?_)
                refine q_iload_n rfl rfl rfl ?_
                refine q_aload_n rfl rfl rfl ?_
                refine q_iload_n rfl rfl rfl ?_
                refine q_cV1 rfl rfl (Or.inl rfl) rfl rfl rfl (by decide) rfl ⟨rfl, rfl⟩ rfl (fun K' hK' => l_cost (by decide) rfl rfl ((FM_74 hM).trans (FW_74 S hW)) fM40_2 hK') ?_
                refine q_iload_n rfl rfl rfl ?_
                refine q_icne rfl rfl (fun c680 => ?_) (fun c680 => absurd (by decide) c680)
                refine q_iconst rfl rfl ?_
                refine q_iload_n rfl rfl rfl ?_
                refine q_ishl rfl rfl (q_tn (z := 1) rfl ?_)
                refine q_goto rfl ?_
                refine q_ior rfl rfl (q_tn (z := 1) rfl ?_)
                refine q_ist1n rfl rfl rfl rfl ?_
                refine q_icc3 (z := 1) rfl rfl rfl rfl rfl ?_
                refine q_goto rfl ?_
                refine q_iload_n rfl rfl rfl ?_
                refine q_iconst rfl rfl ?_
                refine q_icge rfl rfl (fun c681 => absurd c681 (by decide)) (fun c681 => ?_)
                refine q_iload_n rfl rfl rfl ?_
                refine q_aload_n rfl rfl rfl ?_
                refine q_iload_n rfl rfl rfl ?_
                refine q_cV1 rfl rfl (Or.inl rfl) rfl rfl rfl (by decide) rfl ⟨rfl, rfl⟩ rfl (fun K' hK' => l_cost (by decide) rfl rfl ((FM_74 hM).trans (FW_74 S hW)) fM40_2 hK') ?_
                refine q_iload_n rfl rfl rfl ?_
                refine q_icne rfl rfl (fun c682 => ?_) (fun c682 => absurd (by decide) c682)
                refine q_iconst rfl rfl ?_
                refine q_iload_n rfl rfl rfl ?_
                refine q_ishl rfl rfl (q_tn (z := 2) rfl ?_)
                refine q_goto rfl ?_
                refine q_ior rfl rfl (q_tn (z := 3) rfl ?_)
                refine q_ist1n rfl rfl rfl rfl ?_
                refine q_icc3 (z := 2) rfl rfl rfl rfl rfl ?_
                refine q_goto rfl ?_
                refine q_iload_n rfl rfl rfl ?_
                refine q_iconst rfl rfl ?_
                refine q_icge rfl rfl (fun c683 => absurd c683 (by decide)) (fun c683 => ?_)
                refine q_iload_n rfl rfl rfl ?_
                refine q_aload_n rfl rfl rfl ?_
                refine q_iload_n rfl rfl rfl ?_
                refine q_cV1 rfl rfl (Or.inl rfl) rfl rfl rfl (by decide) rfl ⟨rfl, rfl⟩ rfl (fun K' hK' => l_cost (by decide) rfl rfl ((FM_74 hM).trans (FW_74 S hW)) fM40_2 hK') ?_
                refine q_iload_n rfl rfl rfl ?_
                refine q_icne rfl rfl (fun c684 => ?_) (fun c684 => absurd (by decide) c684)
                refine q_iconst rfl rfl ?_
                refine q_iload_n rfl rfl rfl ?_
                refine q_ishl rfl rfl (q_tn (z := 4) rfl ?_)
                refine q_goto rfl ?_
                refine q_ior rfl rfl (q_tn (z := 7) rfl ?_)
                refine q_ist1n rfl rfl rfl rfl ?_
                refine q_icc3 (z := 3) rfl rfl rfl rfl rfl ?_
                refine q_goto rfl ?_
                refine q_iload_n rfl rfl rfl ?_
                refine q_iconst rfl rfl ?_
                refine q_icge rfl rfl (fun c685 => absurd c685 (by decide)) (fun c685 => ?_)
                refine q_iload_n rfl rfl rfl ?_
                refine q_aload_n rfl rfl rfl ?_
                refine q_iload_n rfl rfl rfl ?_
                refine q_cV1 rfl rfl (Or.inl rfl) rfl rfl rfl (by decide) rfl ⟨rfl, rfl⟩ rfl (fun K' hK' => l_cost (by decide) rfl rfl ((FM_74 hM).trans (FW_74 S hW)) fM40_2 hK') ?_
                refine q_iload_n rfl rfl rfl ?_
                refine q_icne rfl rfl (fun c686 => ?_) (fun c686 => absurd (by decide) c686)
                refine q_iconst rfl rfl ?_
                refine q_iload_n rfl rfl rfl ?_
                refine q_ishl rfl rfl (q_tn (z := 8) rfl ?_)
                refine q_goto rfl ?_
                refine q_ior rfl rfl (q_tn (z := 15) rfl ?_)
                refine q_ist1n rfl rfl rfl rfl ?_
                refine q_icc3 (z := 4) rfl rfl rfl rfl rfl ?_
                refine q_goto rfl ?_
                refine q_iload_n rfl rfl rfl ?_
                refine q_iconst rfl rfl ?_
                refine q_icge rfl rfl (fun c687 => absurd c687 (by decide)) (fun c687 => ?_)
                refine q_iload_n rfl rfl rfl ?_
                refine q_aload_n rfl rfl rfl ?_
                refine q_iload_n rfl rfl rfl ?_
                refine q_cV1 rfl rfl (Or.inl rfl) rfl rfl rfl (by decide) rfl ⟨rfl, rfl⟩ rfl (fun K' hK' => l_cost (by decide) rfl rfl ((FM_74 hM).trans (FW_74 S hW)) fM40_2 hK') ?_
                refine q_iload_n rfl rfl rfl ?_
                refine q_icne rfl rfl (fun c688 => ?_) (fun c688 => absurd (by decide) c688)
                refine q_iconst rfl rfl ?_
                refine q_iload_n rfl rfl rfl ?_
                refine q_ishl rfl rfl (q_tn (z := 16) rfl ?_)
                refine q_goto rfl ?_
                refine q_ior rfl rfl (q_tn (z := 31) rfl ?_)
                refine q_ist1n rfl rfl rfl rfl ?_
                refine q_icc3 (z := 5) rfl rfl rfl rfl rfl ?_
                refine q_goto rfl ?_
                refine q_iload_n rfl rfl rfl ?_
                refine q_iconst rfl rfl ?_
                refine q_icge rfl rfl (fun c689 => ?_) (fun c689 => absurd (by decide) c689)
                refine q_iload_n rfl rfl rfl ?_
                refine q_iret rfl rfl trivial ?_
                refine ⟨_, rfl, ?_⟩
                refine q_ist1n rfl rfl rfl rfl ?_
                refine q_bipush rfl rfl ?_
                refine q_ist2n rfl rfl rfl rfl ?_
                refine q_bipush rfl rfl ?_
                refine q_ist3n rfl rfl rfl rfl ?_
                refine q_iconst rfl rfl ?_
                refine q_ist4 rfl rfl rfl rfl ?_
                refine q_iload rfl rfl rfl ?_
                refine q_bipush rfl rfl ?_
                refine q_icge rfl rfl (fun c690 => absurd c690 (by decide)) (fun c690 => ?_)
                refine q_iconst rfl rfl ?_
                refine q_ist5 rfl rfl rfl rfl ?_
                refine q_iconst rfl rfl ?_
                refine q_ist6 rfl rfl rfl rfl ?_
                refine q_iconst rfl rfl ?_
                refine q_ist7 rfl rfl rfl rfl ?_
                refine q_iload rfl rfl rfl ?_
                refine q_iconst rfl rfl ?_
                refine q_icge rfl rfl (fun c691 => absurd c691 (by decide)) (fun c691 => ?_)
                refine q_iload_n rfl rfl rfl ?_
                refine q_iload rfl rfl rfl ?_
                refine q_ishr rfl rfl (q_tn (z := 31) rfl ?_)
                refine q_iconst rfl rfl ?_
                refine q_iand rfl rfl (q_tn (z := 1) rfl ?_)
                refine q_ifne rfl rfl (fun c692 => absurd c692 (by decide)) (fun c692 => ?_)
                refine q_aload_n rfl rfl rfl ?_
                refine q_getf rfl rfl (by decide) rfl rfl ?_
                refine q_iconst rfl rfl ?_
                refine q_iload rfl rfl rfl ?_
                refine q_imul rfl rfl (q_tn (z := 0) rfl ?_)
                refine q_iload rfl rfl rfl ?_
                refine q_bipush rfl rfl ?_
                refine q_idiv rfl rfl (by decide) (q_tn (z := 0) rfl ?_)
                refine q_iadd rfl rfl (q_tn (z := 0) rfl ?_)
                refine q_iald rfl rfl (by decide) rfl (by decide) (q_tn (z := 1) rfl ?_)
                refine q_iload rfl rfl rfl ?_
                refine q_bipush rfl rfl ?_
                refine q_irem rfl rfl (by decide) (q_tn (z := 0) rfl ?_)
                refine q_ishr rfl rfl (q_tn (z := 1) rfl ?_)
                refine q_iconst rfl rfl ?_
                refine q_iand rfl rfl (q_tn (z := 1) rfl ?_)
                refine q_iconst rfl rfl ?_
                refine q_icne rfl rfl (fun c693 => ?_) (fun c693 => absurd (by decide) c693)
                refine q_icc5 (z := 1) rfl rfl rfl rfl rfl ?_
                refine q_goto rfl ?_
                refine q_icc7 (z := 1) rfl rfl rfl rfl rfl ?_
                refine q_goto rfl ?_
                refine q_iload rfl rfl rfl ?_
                refine q_iconst rfl rfl ?_
                refine q_icge rfl rfl (fun c694 => absurd c694 (by decide)) (fun c694 => ?_)
                refine q_iload_n rfl rfl rfl ?_
                refine q_iload rfl rfl rfl ?_
                refine q_ishr rfl rfl (q_tn (z := 15) rfl ?_)
                refine q_iconst rfl rfl ?_
                refine q_iand rfl rfl (q_tn (z := 1) rfl ?_)
                refine q_ifne rfl rfl (fun c695 => absurd c695 (by decide)) (fun c695 => ?_)
                refine q_aload_n rfl rfl rfl ?_
                refine q_getf rfl rfl (by decide) rfl rfl ?_
                refine q_iconst rfl rfl ?_
                refine q_iload rfl rfl rfl ?_
                refine q_imul rfl rfl (q_tn (z := 4) rfl ?_)
                refine q_iload rfl rfl rfl ?_
                refine q_bipush rfl rfl ?_
                refine q_idiv rfl rfl (by decide) (q_tn (z := 0) rfl ?_)
                refine q_iadd rfl rfl (q_tn (z := 4) rfl ?_)
                refine q_iald rfl rfl (by decide) rfl (by decide) (q_tn (z := 1) rfl ?_)
                refine q_iload rfl rfl rfl ?_
                refine q_bipush rfl rfl ?_
                refine q_irem rfl rfl (by decide) (q_tn (z := 0) rfl ?_)
                refine q_ishr rfl rfl (q_tn (z := 1) rfl ?_)
                refine q_iconst rfl rfl ?_
                refine q_iand rfl rfl (q_tn (z := 1) rfl ?_)
                refine q_iconst rfl rfl ?_
                refine q_icne rfl rfl (fun c696 => ?_) (fun c696 => absurd (by decide) c696)
                refine q_icc5 (z := 2) rfl rfl rfl rfl rfl ?_
                refine q_goto rfl ?_
                refine q_icc7 (z := 2) rfl rfl rfl rfl rfl ?_
                refine q_goto rfl ?_
                refine q_iload rfl rfl rfl ?_
                refine q_iconst rfl rfl ?_
                refine q_icge rfl rfl (fun c697 => absurd c697 (by decide)) (fun c697 => ?_)
                refine q_iload_n rfl rfl rfl ?_
                refine q_iload rfl rfl rfl ?_
                refine q_ishr rfl rfl (q_tn (z := 7) rfl ?_)
                refine q_iconst rfl rfl ?_
                refine q_iand rfl rfl (q_tn (z := 1) rfl ?_)
                refine q_ifne rfl rfl (fun c698 => absurd c698 (by decide)) (fun c698 => ?_)
                refine q_aload_n rfl rfl rfl ?_
                refine q_getf rfl rfl (by decide) rfl rfl ?_
                refine q_iconst rfl rfl ?_
                refine q_iload rfl rfl rfl ?_
                refine q_imul rfl rfl (q_tn (z := 8) rfl ?_)
                refine q_iload rfl rfl rfl ?_
                refine q_bipush rfl rfl ?_
                refine q_idiv rfl rfl (by decide) (q_tn (z := 0) rfl ?_)
                refine q_iadd rfl rfl (q_tn (z := 8) rfl ?_)
                refine q_iald rfl rfl (by decide) rfl (by decide) (q_tn (z := 1) rfl ?_)
                refine q_iload rfl rfl rfl ?_
                refine q_bipush rfl rfl ?_
                refine q_irem rfl rfl (by decide) (q_tn (z := 0) rfl ?_)
                refine q_ishr rfl rfl (q_tn (z := 1) rfl ?_)
                refine q_iconst rfl rfl ?_
                refine q_iand rfl rfl (q_tn (z := 1) rfl ?_)
                refine q_iconst rfl rfl ?_
                refine q_icne rfl rfl (fun c699 => ?_) (fun c699 => absurd (by decide) c699)
                refine q_icc5 (z := 3) rfl rfl rfl rfl rfl ?_
                refine q_goto rfl ?_
                refine q_icc7 (z := 3) rfl rfl rfl rfl rfl ?_
                refine q_goto rfl ?_
                refine q_iload rfl rfl rfl ?_
                refine q_iconst rfl rfl ?_
                refine q_icge rfl rfl (fun c700 => absurd c700 (by decide)) (fun c700 => ?_)
                refine q_iload_n rfl rfl rfl ?_
                refine q_iload rfl rfl rfl ?_
                refine q_ishr rfl rfl (q_tn (z := 3) rfl ?_)
                refine q_iconst rfl rfl ?_
                refine q_iand rfl rfl (q_tn (z := 1) rfl ?_)
                refine q_ifne rfl rfl (fun c701 => absurd c701 (by decide)) (fun c701 => ?_)
                refine q_aload_n rfl rfl rfl ?_
                refine q_getf rfl rfl (by decide) rfl rfl ?_
                refine q_iconst rfl rfl ?_
                refine q_iload rfl rfl rfl ?_
                refine q_imul rfl rfl (q_tn (z := 12) rfl ?_)
                refine q_iload rfl rfl rfl ?_
                refine q_bipush rfl rfl ?_
                refine q_idiv rfl rfl (by decide) (q_tn (z := 0) rfl ?_)
                refine q_iadd rfl rfl (q_tn (z := 12) rfl ?_)
                refine q_iald rfl rfl (by decide) rfl (by decide) (q_tn (z := 1) rfl ?_)
                refine q_iload rfl rfl rfl ?_
                refine q_bipush rfl rfl ?_
                refine q_irem rfl rfl (by decide) (q_tn (z := 0) rfl ?_)
                refine q_ishr rfl rfl (q_tn (z := 1) rfl ?_)
                refine q_iconst rfl rfl ?_
                refine q_iand rfl rfl (q_tn (z := 1) rfl ?_)
                refine q_iconst rfl rfl ?_
                refine q_icne rfl rfl (fun c702 => ?_) (fun c702 => absurd (by decide) c702)
                refine q_icc5 (z := 4) rfl rfl rfl rfl rfl ?_
                refine q_goto rfl ?_
                refine q_icc7 (z := 4) rfl rfl rfl rfl rfl ?_
                refine q_goto rfl ?_
                refine q_iload rfl rfl rfl ?_
                refine q_iconst rfl rfl ?_
                refine q_icge rfl rfl (fun c703 => absurd c703 (by decide)) (fun c703 => ?_)
                refine q_iload_n rfl rfl rfl ?_
                refine q_iload rfl rfl rfl ?_
                refine q_ishr rfl rfl (q_tn (z := 1) rfl ?_)
                refine q_iconst rfl rfl ?_
                refine q_iand rfl rfl (q_tn (z := 1) rfl ?_)
                refine q_ifne rfl rfl (fun c704 => absurd c704 (by decide)) (fun c704 => ?_)
                refine q_aload_n rfl rfl rfl ?_
                refine q_getf rfl rfl (by decide) rfl rfl ?_
                refine q_iconst rfl rfl ?_
                refine q_iload rfl rfl rfl ?_
                refine q_imul rfl rfl (q_tn (z := 16) rfl ?_)
                refine q_iload rfl rfl rfl ?_
                refine q_bipush rfl rfl ?_
                refine q_idiv rfl rfl (by decide) (q_tn (z := 0) rfl ?_)
                refine q_iadd rfl rfl (q_tn (z := 16) rfl ?_)
                refine q_iald rfl rfl (by decide) rfl (by decide) (q_tn (z := 1) rfl ?_)
                refine q_iload rfl rfl rfl ?_
                refine q_bipush rfl rfl ?_
                refine q_irem rfl rfl (by decide) (q_tn (z := 0) rfl ?_)
                refine q_ishr rfl rfl (q_tn (z := 1) rfl ?_)
                refine q_iconst rfl rfl ?_
                refine q_iand rfl rfl (q_tn (z := 1) rfl ?_)
                refine q_iconst rfl rfl ?_
                refine q_icne rfl rfl (fun c705 => ?_) (fun c705 => absurd (by decide) c705)
                refine q_icc5 (z := 5) rfl rfl rfl rfl rfl ?_
                refine q_goto rfl ?_
                refine q_icc7 (z := 5) rfl rfl rfl rfl rfl ?_
                refine q_goto rfl ?_
                refine q_iload rfl rfl rfl ?_
                refine q_iconst rfl rfl ?_
                refine q_icge rfl rfl (fun c706 => ?_) (fun c706 => absurd (by decide) c706)
                refine q_iload rfl rfl rfl ?_
                refine q_iload rfl rfl rfl ?_
                refine q_icle rfl rfl (fun c707 => absurd c707 (by decide)) (fun c707 => ?_)
                refine q_iload rfl rfl rfl ?_
                refine q_goto rfl ?_
                refine q_ist7 rfl rfl rfl rfl ?_
                refine q_aload_n rfl rfl rfl ?_
                refine q_getf rfl rfl (by decide) rfl rfl ?_
                refine q_iload rfl rfl rfl ?_
                refine q_iald rfl rfl (by decide) ((FM_74 hM).trans (FW_74 S hW)) (by decide) (q_tn (z := (-2)) rfl ?_)
                refine q_bipush rfl rfl ?_
                refine q_icne rfl rfl (fun c708 => ?_) (fun c708 => absurd (by decide) c708)
                refine q_iload rfl rfl rfl ?_
                refine q_iload_n rfl rfl rfl ?_
                refine q_iclt rfl rfl (fun c709 => ?_) (fun c709 => absurd (by decide) c709)
                refine q_iload rfl rfl rfl ?_
                refine q_ist3n rfl rfl rfl rfl ?_
                refine q_iload rfl rfl rfl ?_
                refine q_ist2n rfl rfl rfl rfl ?_
                refine q_icc4 (z := 1) rfl rfl rfl rfl rfl ?_
                refine q_goto rfl ?_
                refine q_iload rfl rfl rfl ?_
                refine q_bipush rfl rfl ?_
                refine q_icge rfl rfl (fun c710 => absurd c710 (by decide)) (fun c710 => ?_)
                refine q_iconst rfl rfl ?_
                refine q_ist5 rfl rfl rfl rfl ?_
                refine q_iconst rfl rfl ?_
                refine q_ist6 rfl rfl rfl rfl ?_
                refine q_iconst rfl rfl ?_
                refine q_ist7 rfl rfl rfl rfl ?_
                refine q_iload rfl rfl rfl ?_
                refine q_iconst rfl rfl ?_
                refine q_icge rfl rfl (fun c711 => absurd c711 (by decide)) (fun c711 => ?_)
                refine q_iload_n rfl rfl rfl ?_
                refine q_iload rfl rfl rfl ?_
                refine q_ishr rfl rfl (q_tn (z := 31) rfl ?_)
                refine q_iconst rfl rfl ?_
                refine q_iand rfl rfl (q_tn (z := 1) rfl ?_)
                refine q_ifne rfl rfl (fun c712 => absurd c712 (by decide)) (fun c712 => ?_)
                refine q_aload_n rfl rfl rfl ?_
                refine q_getf rfl rfl (by decide) rfl rfl ?_
                refine q_iconst rfl rfl ?_
                refine q_iload rfl rfl rfl ?_
                refine q_imul rfl rfl (q_tn (z := 0) rfl ?_)
                refine q_iload rfl rfl rfl ?_
                refine q_bipush rfl rfl ?_
                refine q_idiv rfl rfl (by decide) (q_tn (z := 0) rfl ?_)
                refine q_iadd rfl rfl (q_tn (z := 0) rfl ?_)
                refine q_iald rfl rfl (by decide) rfl (by decide) (q_tn (z := 1) rfl ?_)
                refine q_iload rfl rfl rfl ?_
                refine q_bipush rfl rfl ?_
                refine q_irem rfl rfl (by decide) (q_tn (z := 1) rfl ?_)
                refine q_ishr rfl rfl (q_tn (z := 0) rfl ?_)
                refine q_iconst rfl rfl ?_
                refine q_iand rfl rfl (q_tn (z := 0) rfl ?_)
                refine q_iconst rfl rfl ?_
                refine q_icne rfl rfl (fun c713 => absurd c713 (by decide)) (fun c713 => ?_)
                refine q_icc6 (z := 1) rfl rfl rfl rfl rfl ?_
                refine q_icc7 (z := 1) rfl rfl rfl rfl rfl ?_
                refine q_goto rfl ?_
                refine q_iload rfl rfl rfl ?_
                refine q_iconst rfl rfl ?_
                refine q_icge rfl rfl (fun c714 => absurd c714 (by decide)) (fun c714 => ?_)
                refine q_iload_n rfl rfl rfl ?_
                refine q_iload rfl rfl rfl ?_
                refine q_ishr rfl rfl (q_tn (z := 15) rfl ?_)
                refine q_iconst rfl rfl ?_
                refine q_iand rfl rfl (q_tn (z := 1) rfl ?_)
                refine q_ifne rfl rfl (fun c715 => absurd c715 (by decide)) (fun c715 => ?_)
                refine q_aload_n rfl rfl rfl ?_
                refine q_getf rfl rfl (by decide) rfl rfl ?_
                refine q_iconst rfl rfl ?_
                refine q_iload rfl rfl rfl ?_
                refine q_imul rfl rfl (q_tn (z := 4) rfl ?_)
                refine q_iload rfl rfl rfl ?_
                refine q_bipush rfl rfl ?_
                refine q_idiv rfl rfl (by decide) (q_tn (z := 0) rfl ?_)
                refine q_iadd rfl rfl (q_tn (z := 4) rfl ?_)
                refine q_iald rfl rfl (by decide) rfl (by decide) (q_tn (z := 1) rfl ?_)
                refine q_iload rfl rfl rfl ?_
                refine q_bipush rfl rfl ?_
                refine q_irem rfl rfl (by decide) (q_tn (z := 1) rfl ?_)
                refine q_ishr rfl rfl (q_tn (z := 0) rfl ?_)
                refine q_iconst rfl rfl ?_
                refine q_iand rfl rfl (q_tn (z := 0) rfl ?_)
                refine q_iconst rfl rfl ?_
                refine q_icne rfl rfl (fun c716 => absurd c716 (by decide)) (fun c716 => ?_)
                refine q_icc6 (z := 2) rfl rfl rfl rfl rfl ?_
                refine q_icc7 (z := 2) rfl rfl rfl rfl rfl ?_
                refine q_goto rfl ?_
                refine q_iload rfl rfl rfl ?_
                refine q_iconst rfl rfl ?_
                refine q_icge rfl rfl (fun c717 => absurd c717 (by decide)) (fun c717 => ?_)
                refine q_iload_n rfl rfl rfl ?_
                refine q_iload rfl rfl rfl ?_
                refine q_ishr rfl rfl (q_tn (z := 7) rfl ?_)
                refine q_iconst rfl rfl ?_
                refine q_iand rfl rfl (q_tn (z := 1) rfl ?_)
                refine q_ifne rfl rfl (fun c718 => absurd c718 (by decide)) (fun c718 => ?_)
                refine q_aload_n rfl rfl rfl ?_
                refine q_getf rfl rfl (by decide) rfl rfl ?_
                refine q_iconst rfl rfl ?_
                refine q_iload rfl rfl rfl ?_
                refine q_imul rfl rfl (q_tn (z := 8) rfl ?_)
                refine q_iload rfl rfl rfl ?_
                refine q_bipush rfl rfl ?_
                refine q_idiv rfl rfl (by decide) (q_tn (z := 0) rfl ?_)
                refine q_iadd rfl rfl (q_tn (z := 8) rfl ?_)
                refine q_iald rfl rfl (by decide) rfl (by decide) (q_tn (z := 1) rfl ?_)
                refine q_iload rfl rfl rfl ?_
                refine q_bipush rfl rfl ?_
                refine q_irem rfl rfl (by decide) (q_tn (z := 1) rfl ?_)
                refine q_ishr rfl rfl (q_tn (z := 0) rfl ?_)
                refine q_iconst rfl rfl ?_
                refine q_iand rfl rfl (q_tn (z := 0) rfl ?_)
                refine q_iconst rfl rfl ?_
                refine q_icne rfl rfl (fun c719 => absurd c719 (by decide)) (fun c719 => ?_)
                refine q_icc6 (z := 3) rfl rfl rfl rfl rfl ?_
                refine q_icc7 (z := 3) rfl rfl rfl rfl rfl ?_
                refine q_goto rfl ?_
                refine q_iload rfl rfl rfl ?_
                refine q_iconst rfl rfl ?_
                refine q_icge rfl rfl (fun c720 => absurd c720 (by decide)) (fun c720 => ?_)
                refine q_iload_n rfl rfl rfl ?_
                refine q_iload rfl rfl rfl ?_
                refine q_ishr rfl rfl (q_tn (z := 3) rfl ?_)
                refine q_iconst rfl rfl ?_
                refine q_iand rfl rfl (q_tn (z := 1) rfl ?_)
                refine q_ifne rfl rfl (fun c721 => absurd c721 (by decide)) (fun c721 => ?_)
                refine q_aload_n rfl rfl rfl ?_
                refine q_getf rfl rfl (by decide) rfl rfl ?_
                refine q_iconst rfl rfl ?_
                refine q_iload rfl rfl rfl ?_
                refine q_imul rfl rfl (q_tn (z := 12) rfl ?_)
                refine q_iload rfl rfl rfl ?_
                refine q_bipush rfl rfl ?_
                refine q_idiv rfl rfl (by decide) (q_tn (z := 0) rfl ?_)
                refine q_iadd rfl rfl (q_tn (z := 12) rfl ?_)
                refine q_iald rfl rfl (by decide) rfl (by decide) (q_tn (z := 1) rfl ?_)
                refine q_iload rfl rfl rfl ?_
                refine q_bipush rfl rfl ?_
                refine q_irem rfl rfl (by decide) (q_tn (z := 1) rfl ?_)
                refine q_ishr rfl rfl (q_tn (z := 0) rfl ?_)
                refine q_iconst rfl rfl ?_
                refine q_iand rfl rfl (q_tn (z := 0) rfl ?_)
                refine q_iconst rfl rfl ?_
                refine q_icne rfl rfl (fun c722 => absurd c722 (by decide)) (fun c722 => ?_)
                refine q_icc6 (z := 4) rfl rfl rfl rfl rfl ?_
                refine q_icc7 (z := 4) rfl rfl rfl rfl rfl ?_
                refine q_goto rfl ?_
                refine q_iload rfl rfl rfl ?_
                refine q_iconst rfl rfl ?_
                refine q_icge rfl rfl (fun c723 => absurd c723 (by decide)) (fun c723 => ?_)
                refine q_iload_n rfl rfl rfl ?_
                refine q_iload rfl rfl rfl ?_
                refine q_ishr rfl rfl (q_tn (z := 1) rfl ?_)
                refine q_iconst rfl rfl ?_
                refine q_iand rfl rfl (q_tn (z := 1) rfl ?_)
                refine q_ifne rfl rfl (fun c724 => absurd c724 (by decide)) (fun c724 => ?_)
                refine q_aload_n rfl rfl rfl ?_
                refine q_getf rfl rfl (by decide) rfl rfl ?_
                refine q_iconst rfl rfl ?_
                refine q_iload rfl rfl rfl ?_
                refine q_imul rfl rfl (q_tn (z := 16) rfl ?_)
                refine q_iload rfl rfl rfl ?_
                refine q_bipush rfl rfl ?_
                refine q_idiv rfl rfl (by decide) (q_tn (z := 0) rfl ?_)
                refine q_iadd rfl rfl (q_tn (z := 16) rfl ?_)
                refine q_iald rfl rfl (by decide) rfl (by decide) (q_tn (z := 1) rfl ?_)
                refine q_iload rfl rfl rfl ?_
                refine q_bipush rfl rfl ?_
                refine q_irem rfl rfl (by decide) (q_tn (z := 1) rfl ?_)
                refine q_ishr rfl rfl (q_tn (z := 0) rfl ?_)
                refine q_iconst rfl rfl ?_
                refine q_iand rfl rfl (q_tn (z := 0) rfl ?_)
                refine q_iconst rfl rfl ?_
                refine q_icne rfl rfl (fun c725 => absurd c725 (by decide)) (fun c725 => ?_)
                refine q_icc6 (z := 5) rfl rfl rfl rfl rfl ?_
                refine q_icc7 (z := 5) rfl rfl rfl rfl rfl ?_
                refine q_goto rfl ?_
                refine q_iload rfl rfl rfl ?_
                refine q_iconst rfl rfl ?_
                refine q_icge rfl rfl (fun c726 => ?_) (fun c726 => absurd (by decide) c726)
                refine q_iload rfl rfl rfl ?_
                refine q_iload rfl rfl rfl ?_
                refine q_icle rfl rfl (fun c727 => ?_) (fun c727 => absurd (by decide) c727)
                refine q_iload rfl rfl rfl ?_
                refine q_ist7 rfl rfl rfl rfl ?_
                refine q_aload_n rfl rfl rfl ?_
                refine q_getf rfl rfl (by decide) rfl rfl ?_
                refine q_iload rfl rfl rfl ?_
                refine q_iald rfl rfl (by decide) ((FM_74 hM).trans (FW_74 S hW)) (by decide) (q_tn (z := (-2)) rfl ?_)
                refine q_bipush rfl rfl ?_
                refine q_icne rfl rfl (fun c728 => ?_) (fun c728 => absurd (by decide) c728)
                refine q_iload rfl rfl rfl ?_
                refine q_iload_n rfl rfl rfl ?_
                refine q_iclt rfl rfl (fun c729 => absurd c729 (by decide)) (fun c729 => ?_)
                refine q_goto rfl ?_
                refine q_icc4 (z := 2) rfl rfl rfl rfl rfl ?_
                refine q_goto rfl ?_
                refine q_iload rfl rfl rfl ?_
                refine q_bipush rfl rfl ?_
                refine q_icge rfl rfl (fun c730 => absurd c730 (by decide)) (fun c730 => ?_)
                refine q_iconst rfl rfl ?_
                refine q_ist5 rfl rfl rfl rfl ?_
                refine q_iconst rfl rfl ?_
                refine q_ist6 rfl rfl rfl rfl ?_
                refine q_iconst rfl rfl ?_
                refine q_ist7 rfl rfl rfl rfl ?_
                refine q_iload rfl rfl rfl ?_
                refine q_iconst rfl rfl ?_
                refine q_icge rfl rfl (fun c731 => absurd c731 (by decide)) (fun c731 => ?_)
                refine q_iload_n rfl rfl rfl ?_
                refine q_iload rfl rfl rfl ?_
                refine q_ishr rfl rfl (q_tn (z := 31) rfl ?_)
                refine q_iconst rfl rfl ?_
                refine q_iand rfl rfl (q_tn (z := 1) rfl ?_)
                refine q_ifne rfl rfl (fun c732 => absurd c732 (by decide)) (fun c732 => ?_)
                refine q_aload_n rfl rfl rfl ?_
                refine q_getf rfl rfl (by decide) rfl rfl ?_
                refine q_iconst rfl rfl ?_
                refine q_iload rfl rfl rfl ?_
                refine q_imul rfl rfl (q_tn (z := 0) rfl ?_)
                refine q_iload rfl rfl rfl ?_
                refine q_bipush rfl rfl ?_
                refine q_idiv rfl rfl (by decide) (q_tn (z := 0) rfl ?_)
                refine q_iadd rfl rfl (q_tn (z := 0) rfl ?_)
                refine q_iald rfl rfl (by decide) rfl (by decide) (q_tn (z := 1) rfl ?_)
                refine q_iload rfl rfl rfl ?_
                refine q_bipush rfl rfl ?_
                refine q_irem rfl rfl (by decide) (q_tn (z := 2) rfl ?_)
                refine q_ishr rfl rfl (q_tn (z := 0) rfl ?_)
                refine q_iconst rfl rfl ?_
                refine q_iand rfl rfl (q_tn (z := 0) rfl ?_)
                refine q_iconst rfl rfl ?_
                refine q_icne rfl rfl (fun c733 => absurd c733 (by decide)) (fun c733 => ?_)
                refine q_icc6 (z := 1) rfl rfl rfl rfl rfl ?_
                refine q_icc7 (z := 1) rfl rfl rfl rfl rfl ?_
                refine q_goto rfl ?_
                refine q_iload rfl rfl rfl ?_
                refine q_iconst rfl rfl ?_
                refine q_icge rfl rfl (fun c734 => absurd c734 (by decide)) (fun c734 => ?_)
                refine q_iload_n rfl rfl rfl ?_
                refine q_iload rfl rfl rfl ?_
                refine q_ishr rfl rfl (q_tn (z := 15) rfl ?_)
                refine q_iconst rfl rfl ?_
                refine q_iand rfl rfl (q_tn (z := 1) rfl ?_)
                refine q_ifne rfl rfl (fun c735 => absurd c735 (by decide)) (fun c735 => ?_)
                refine q_aload_n rfl rfl rfl ?_
                refine q_getf rfl rfl (by decide) rfl rfl ?_
                refine q_iconst rfl rfl ?_
                refine q_iload rfl rfl rfl ?_
                refine q_imul rfl rfl (q_tn (z := 4) rfl ?_)
                refine q_iload rfl rfl rfl ?_
                refine q_bipush rfl rfl ?_
                refine q_idiv rfl rfl (by decide) (q_tn (z := 0) rfl ?_)
                refine q_iadd rfl rfl (q_tn (z := 4) rfl ?_)
                refine q_iald rfl rfl (by decide) rfl (by decide) (q_tn (z := 1) rfl ?_)
                refine q_iload rfl rfl rfl ?_
                refine q_bipush rfl rfl ?_
                refine q_irem rfl rfl (by decide) (q_tn (z := 2) rfl ?_)
                refine q_ishr rfl rfl (q_tn (z := 0) rfl ?_)
                refine q_iconst rfl rfl ?_
                refine q_iand rfl rfl (q_tn (z := 0) rfl ?_)
                refine q_iconst rfl rfl ?_
                refine q_icne rfl rfl (fun c736 => absurd c736 (by decide)) (fun c736 => ?_)
                refine q_icc6 (z := 2) rfl rfl rfl rfl rfl ?_
                refine q_icc7 (z := 2) rfl rfl rfl rfl rfl ?_
                refine q_goto rfl ?_
                refine q_iload rfl rfl rfl ?_
                refine q_iconst rfl rfl ?_
                refine q_icge rfl rfl (fun c737 => absurd c737 (by decide)) (fun c737 => ?_)
                refine q_iload_n rfl rfl rfl ?_
                refine q_iload rfl rfl rfl ?_
                refine q_ishr rfl rfl (q_tn (z := 7) rfl ?_)
                refine q_iconst rfl rfl ?_
                refine q_iand rfl rfl (q_tn (z := 1) rfl ?_)
                refine q_ifne rfl rfl (fun c738 => absurd c738 (by decide)) (fun c738 => ?_)
                refine q_aload_n rfl rfl rfl ?_
                refine q_getf rfl rfl (by decide) rfl rfl ?_
                refine q_iconst rfl rfl ?_
                refine q_iload rfl rfl rfl ?_
                refine q_imul rfl rfl (q_tn (z := 8) rfl ?_)
                refine q_iload rfl rfl rfl ?_
                refine q_bipush rfl rfl ?_
                refine q_idiv rfl rfl (by decide) (q_tn (z := 0) rfl ?_)
                refine q_iadd rfl rfl (q_tn (z := 8) rfl ?_)
                refine q_iald rfl rfl (by decide) rfl (by decide) (q_tn (z := 1) rfl ?_)
                refine q_iload rfl rfl rfl ?_
                refine q_bipush rfl rfl ?_
                refine q_irem rfl rfl (by decide) (q_tn (z := 2) rfl ?_)
                refine q_ishr rfl rfl (q_tn (z := 0) rfl ?_)
                refine q_iconst rfl rfl ?_
                refine q_iand rfl rfl (q_tn (z := 0) rfl ?_)
                refine q_iconst rfl rfl ?_
                refine q_icne rfl rfl (fun c739 => absurd c739 (by decide)) (fun c739 => ?_)
                refine q_icc6 (z := 3) rfl rfl rfl rfl rfl ?_
                refine q_icc7 (z := 3) rfl rfl rfl rfl rfl ?_
                refine q_goto rfl ?_
                refine q_iload rfl rfl rfl ?_
                refine q_iconst rfl rfl ?_
                refine q_icge rfl rfl (fun c740 => absurd c740 (by decide)) (fun c740 => ?_)
                refine q_iload_n rfl rfl rfl ?_
                refine q_iload rfl rfl rfl ?_
                refine q_ishr rfl rfl (q_tn (z := 3) rfl ?_)
                refine q_iconst rfl rfl ?_
                refine q_iand rfl rfl (q_tn (z := 1) rfl ?_)
                refine q_ifne rfl rfl (fun c741 => absurd c741 (by decide)) (fun c741 => ?_)
                refine q_aload_n rfl rfl rfl ?_
                refine q_getf rfl rfl (by decide) rfl rfl ?_
                refine q_iconst rfl rfl ?_
                refine q_iload rfl rfl rfl ?_
                refine q_imul rfl rfl (q_tn (z := 12) rfl ?_)
                refine q_iload rfl rfl rfl ?_
                refine q_bipush rfl rfl ?_
                refine q_idiv rfl rfl (by decide) (q_tn (z := 0) rfl ?_)
                refine q_iadd rfl rfl (q_tn (z := 12) rfl ?_)
                refine q_iald rfl rfl (by decide) rfl (by decide) (q_tn (z := 1) rfl ?_)
                refine q_iload rfl rfl rfl ?_
                refine q_bipush rfl rfl ?_
                refine q_irem rfl rfl (by decide) (q_tn (z := 2) rfl ?_)
                refine q_ishr rfl rfl (q_tn (z := 0) rfl ?_)
                refine q_iconst rfl rfl ?_
                refine q_iand rfl rfl (q_tn (z := 0) rfl ?_)
                refine q_iconst rfl rfl ?_
                refine q_icne rfl rfl (fun c742 => absurd c742 (by decide)) (fun c742 => ?_)
                refine q_icc6 (z := 4) rfl rfl rfl rfl rfl ?_
                refine q_icc7 (z := 4) rfl rfl rfl rfl rfl ?_
                refine q_goto rfl ?_
                refine q_iload rfl rfl rfl ?_
                refine q_iconst rfl rfl ?_
                refine q_icge rfl rfl (fun c743 => absurd c743 (by decide)) (fun c743 => ?_)
                refine q_iload_n rfl rfl rfl ?_
                refine q_iload rfl rfl rfl ?_
                refine q_ishr rfl rfl (q_tn (z := 1) rfl ?_)
                refine q_iconst rfl rfl ?_
                refine q_iand rfl rfl (q_tn (z := 1) rfl ?_)
                refine q_ifne rfl rfl (fun c744 => absurd c744 (by decide)) (fun c744 => ?_)
                refine q_aload_n rfl rfl rfl ?_
                refine q_getf rfl rfl (by decide) rfl rfl ?_
                refine q_iconst rfl rfl ?_
                refine q_iload rfl rfl rfl ?_
                refine q_imul rfl rfl (q_tn (z := 16) rfl ?_)
                refine q_iload rfl rfl rfl ?_
                refine q_bipush rfl rfl ?_
                refine q_idiv rfl rfl (by decide) (q_tn (z := 0) rfl ?_)
                refine q_iadd rfl rfl (q_tn (z := 16) rfl ?_)
                refine q_iald rfl rfl (by decide) rfl (by decide) (q_tn (z := 1) rfl ?_)
                refine q_iload rfl rfl rfl ?_
                refine q_bipush rfl rfl ?_
                refine q_irem rfl rfl (by decide) (q_tn (z := 2) rfl ?_)
                refine q_ishr rfl rfl (q_tn (z := 0) rfl ?_)
                refine q_iconst rfl rfl ?_
                refine q_iand rfl rfl (q_tn (z := 0) rfl ?_)
                refine q_iconst rfl rfl ?_
                refine q_icne rfl rfl (fun c745 => absurd c745 (by decide)) (fun c745 => ?_)
                refine q_icc6 (z := 5) rfl rfl rfl rfl rfl ?_
                refine q_icc7 (z := 5) rfl rfl rfl rfl rfl ?_
                refine q_goto rfl ?_
                refine q_iload rfl rfl rfl ?_
                refine q_iconst rfl rfl ?_
                refine q_icge rfl rfl (fun c746 => ?_) (fun c746 => absurd (by decide) c746)
                refine q_iload rfl rfl rfl ?_
                refine q_iload rfl rfl rfl ?_
                refine q_icle rfl rfl (fun c747 => ?_) (fun c747 => absurd (by decide) c747)
                refine q_iload rfl rfl rfl ?_
                refine q_ist7 rfl rfl rfl rfl ?_
                refine q_aload_n rfl rfl rfl ?_
                refine q_getf rfl rfl (by decide) rfl rfl ?_
                refine q_iload rfl rfl rfl ?_
                refine q_iald rfl rfl (by decide) ((FM_74 hM).trans (FW_74 S hW)) (by decide) (q_tn (z := (-2)) rfl ?_)
                refine q_bipush rfl rfl ?_
                refine q_icne rfl rfl (fun c748 => ?_) (fun c748 => absurd (by decide) c748)
                refine q_iload rfl rfl rfl ?_
                refine q_iload_n rfl rfl rfl ?_
                refine q_iclt rfl rfl (fun c749 => absurd c749 (by decide)) (fun c749 => ?_)
                refine q_goto rfl ?_
                refine q_icc4 (z := 3) rfl rfl rfl rfl rfl ?_
                refine q_goto rfl ?_
                refine q_iload rfl rfl rfl ?_
                refine q_bipush rfl rfl ?_
                refine q_icge rfl rfl (fun c750 => absurd c750 (by decide)) (fun c750 => ?_)
                refine q_iconst rfl rfl ?_
                refine q_ist5 rfl rfl rfl rfl ?_
                refine q_iconst rfl rfl ?_
                refine q_ist6 rfl rfl rfl rfl ?_
                refine q_iconst rfl rfl ?_
                refine q_ist7 rfl rfl rfl rfl ?_
                refine q_iload rfl rfl rfl ?_
                refine q_iconst rfl rfl ?_
                refine q_icge rfl rfl (fun c751 => absurd c751 (by decide)) (fun c751 => ?_)
                refine q_iload_n rfl rfl rfl ?_
                refine q_iload rfl rfl rfl ?_
                refine q_ishr rfl rfl (q_tn (z := 31) rfl ?_)
                refine q_iconst rfl rfl ?_
                refine q_iand rfl rfl (q_tn (z := 1) rfl ?_)
                refine q_ifne rfl rfl (fun c752 => absurd c752 (by decide)) (fun c752 => ?_)
                refine q_aload_n rfl rfl rfl ?_
                refine q_getf rfl rfl (by decide) rfl rfl ?_
                refine q_iconst rfl rfl ?_
                refine q_iload rfl rfl rfl ?_
                refine q_imul rfl rfl (q_tn (z := 0) rfl ?_)
                refine q_iload rfl rfl rfl ?_
                refine q_bipush rfl rfl ?_
                refine q_idiv rfl rfl (by decide) (q_tn (z := 0) rfl ?_)
                refine q_iadd rfl rfl (q_tn (z := 0) rfl ?_)
                refine q_iald rfl rfl (by decide) rfl (by decide) (q_tn (z := 1) rfl ?_)
                refine q_iload rfl rfl rfl ?_
                refine q_bipush rfl rfl ?_
                refine q_irem rfl rfl (by decide) (q_tn (z := 3) rfl ?_)
                refine q_ishr rfl rfl (q_tn (z := 0) rfl ?_)
                refine q_iconst rfl rfl ?_
                refine q_iand rfl rfl (q_tn (z := 0) rfl ?_)
                refine q_iconst rfl rfl ?_
                refine q_icne rfl rfl (fun c753 => absurd c753 (by decide)) (fun c753 => ?_)
                refine q_icc6 (z := 1) rfl rfl rfl rfl rfl ?_
                refine q_icc7 (z := 1) rfl rfl rfl rfl rfl ?_
                refine q_goto rfl ?_
                refine q_iload rfl rfl rfl ?_
                refine q_iconst rfl rfl ?_
                refine q_icge rfl rfl (fun c754 => absurd c754 (by decide)) (fun c754 => ?_)
                refine q_iload_n rfl rfl rfl ?_
                refine q_iload rfl rfl rfl ?_
                refine q_ishr rfl rfl (q_tn (z := 15) rfl ?_)
                refine q_iconst rfl rfl ?_
                refine q_iand rfl rfl (q_tn (z := 1) rfl ?_)
                refine q_ifne rfl rfl (fun c755 => absurd c755 (by decide)) (fun c755 => ?_)
                refine q_aload_n rfl rfl rfl ?_
                refine q_getf rfl rfl (by decide) rfl rfl ?_
                refine q_iconst rfl rfl ?_
                refine q_iload rfl rfl rfl ?_
                refine q_imul rfl rfl (q_tn (z := 4) rfl ?_)
                refine q_iload rfl rfl rfl ?_
                refine q_bipush rfl rfl ?_
                refine q_idiv rfl rfl (by decide) (q_tn (z := 0) rfl ?_)
                refine q_iadd rfl rfl (q_tn (z := 4) rfl ?_)
                refine q_iald rfl rfl (by decide) rfl (by decide) (q_tn (z := 1) rfl ?_)
                refine q_iload rfl rfl rfl ?_
                refine q_bipush rfl rfl ?_
                refine q_irem rfl rfl (by decide) (q_tn (z := 3) rfl ?_)
                refine q_ishr rfl rfl (q_tn (z := 0) rfl ?_)
                refine q_iconst rfl rfl ?_
                refine q_iand rfl rfl (q_tn (z := 0) rfl ?_)
                refine q_iconst rfl rfl ?_
                refine q_icne rfl rfl (fun c756 => absurd c756 (by decide)) (fun c756 => ?_)
                refine q_icc6 (z := 2) rfl rfl rfl rfl rfl ?_
                refine q_icc7 (z := 2) rfl rfl rfl rfl rfl ?_
                refine q_goto rfl ?_
                refine q_iload rfl rfl rfl ?_
                refine q_iconst rfl rfl ?_
                refine q_icge rfl rfl (fun c757 => absurd c757 (by decide)) (fun c757 => ?_)
                refine q_iload_n rfl rfl rfl ?_
                refine q_iload rfl rfl rfl ?_
                refine q_ishr rfl rfl (q_tn (z := 7) rfl ?_)
                refine q_iconst rfl rfl ?_
                refine q_iand rfl rfl (q_tn (z := 1) rfl ?_)
                refine q_ifne rfl rfl (fun c758 => absurd c758 (by decide)) (fun c758 => ?_)
                refine q_aload_n rfl rfl rfl ?_
                refine q_getf rfl rfl (by decide) rfl rfl ?_
                refine q_iconst rfl rfl ?_
                refine q_iload rfl rfl rfl ?_
                refine q_imul rfl rfl (q_tn (z := 8) rfl ?_)
                refine q_iload rfl rfl rfl ?_
                refine q_bipush rfl rfl ?_
                refine q_idiv rfl rfl (by decide) (q_tn (z := 0) rfl ?_)
                refine q_iadd rfl rfl (q_tn (z := 8) rfl ?_)
                refine q_iald rfl rfl (by decide) rfl (by decide) (q_tn (z := 1) rfl ?_)
                refine q_iload rfl rfl rfl ?_
                refine q_bipush rfl rfl ?_
                refine q_irem rfl rfl (by decide) (q_tn (z := 3) rfl ?_)
                refine q_ishr rfl rfl (q_tn (z := 0) rfl ?_)
                refine q_iconst rfl rfl ?_
                refine q_iand rfl rfl (q_tn (z := 0) rfl ?_)
                refine q_iconst rfl rfl ?_
                refine q_icne rfl rfl (fun c759 => absurd c759 (by decide)) (fun c759 => ?_)
                refine q_icc6 (z := 3) rfl rfl rfl rfl rfl ?_
                refine q_icc7 (z := 3) rfl rfl rfl rfl rfl ?_
                refine q_goto rfl ?_
                refine q_iload rfl rfl rfl ?_
                refine q_iconst rfl rfl ?_
                refine q_icge rfl rfl (fun c760 => absurd c760 (by decide)) (fun c760 => ?_)
                refine q_iload_n rfl rfl rfl ?_
                refine q_iload rfl rfl rfl ?_
                refine q_ishr rfl rfl (q_tn (z := 3) rfl ?_)
                refine q_iconst rfl rfl ?_
                refine q_iand rfl rfl (q_tn (z := 1) rfl ?_)
                refine q_ifne rfl rfl (fun c761 => absurd c761 (by decide)) (fun c761 => ?_)
                refine q_aload_n rfl rfl rfl ?_
                refine q_getf rfl rfl (by decide) rfl rfl ?_
                refine q_iconst rfl rfl ?_
                refine q_iload rfl rfl rfl ?_
                refine q_imul rfl rfl (q_tn (z := 12) rfl ?_)
                refine q_iload rfl rfl rfl ?_
                refine q_bipush rfl rfl ?_
                refine q_idiv rfl rfl (by decide) (q_tn (z := 0) rfl ?_)
                refine q_iadd rfl rfl (q_tn (z := 12) rfl ?_)
                refine q_iald rfl rfl (by decide) rfl (by decide) (q_tn (z := 1) rfl ?_)
                refine q_iload rfl rfl rfl ?_
                refine q_bipush rfl rfl ?_
                refine q_irem rfl rfl (by decide) (q_tn (z := 3) rfl ?_)
                refine q_ishr rfl rfl (q_tn (z := 0) rfl ?_)
                refine q_iconst rfl rfl ?_
                refine q_iand rfl rfl (q_tn (z := 0) rfl ?_)
                refine q_iconst rfl rfl ?_
                refine q_icne rfl rfl (fun c762 => absurd c762 (by decide)) (fun c762 => ?_)
                refine q_icc6 (z := 4) rfl rfl rfl rfl rfl ?_
                refine q_icc7 (z := 4) rfl rfl rfl rfl rfl ?_
                refine q_goto rfl ?_
                refine q_iload rfl rfl rfl ?_
                refine q_iconst rfl rfl ?_
                refine q_icge rfl rfl (fun c763 => absurd c763 (by decide)) (fun c763 => ?_)
                refine q_iload_n rfl rfl rfl ?_
                refine q_iload rfl rfl rfl ?_
                refine q_ishr rfl rfl (q_tn (z := 1) rfl ?_)
                refine q_iconst rfl rfl ?_
                refine q_iand rfl rfl (q_tn (z := 1) rfl ?_)
                refine q_ifne rfl rfl (fun c764 => absurd c764 (by decide)) (fun c764 => ?_)
                refine q_aload_n rfl rfl rfl ?_
                refine q_getf rfl rfl (by decide) rfl rfl ?_
                refine q_iconst rfl rfl ?_
                refine q_iload rfl rfl rfl ?_
                refine q_imul rfl rfl (q_tn (z := 16) rfl ?_)
                refine q_iload rfl rfl rfl ?_
                refine q_bipush rfl rfl ?_
                refine q_idiv rfl rfl (by decide) (q_tn (z := 0) rfl ?_)
                refine q_iadd rfl rfl (q_tn (z := 16) rfl ?_)
                refine q_iald rfl rfl (by decide) rfl (by decide) (q_tn (z := 1) rfl ?_)
                refine q_iload rfl rfl rfl ?_
                refine q_bipush rfl rfl ?_
                refine q_irem rfl rfl (by decide) (q_tn (z := 3) rfl ?_)
                refine q_ishr rfl rfl (q_tn (z := 0) rfl ?_)
                refine q_iconst rfl rfl ?_
                refine q_iand rfl rfl (q_tn (z := 0) rfl ?_)
                refine q_iconst rfl rfl ?_
                refine q_icne rfl rfl (fun c765 => absurd c765 (by decide)) (fun c765 => ?_)
                refine q_icc6 (z := 5) rfl rfl rfl rfl rfl ?_
                refine q_icc7 (z := 5) rfl rfl rfl rfl rfl ?_
                refine q_goto rfl ?_
                refine q_iload rfl rfl rfl ?_
                refine q_iconst rfl rfl ?_
                refine q_icge rfl rfl (fun c766 => ?_) (fun c766 => absurd (by decide) c766)
                refine q_iload rfl rfl rfl ?_
                refine q_iload rfl rfl rfl ?_
                refine q_icle rfl rfl (fun c767 => ?_) (fun c767 => absurd (by decide) c767)
                refine q_iload rfl rfl rfl ?_
                refine q_ist7 rfl rfl rfl rfl ?_
                refine q_aload_n rfl rfl rfl ?_
                refine q_getf rfl rfl (by decide) rfl rfl ?_
                refine q_iload rfl rfl rfl ?_
                refine q_iald rfl rfl (by decide) ((FM_74 hM).trans (FW_74 S hW)) (by decide) (q_tn (z := (-2)) rfl ?_)
                refine q_bipush rfl rfl ?_
                refine q_icne rfl rfl (fun c768 => ?_) (fun c768 => absurd (by decide) c768)
                refine q_iload rfl rfl rfl ?_
                refine q_iload_n rfl rfl rfl ?_
                refine q_iclt rfl rfl (fun c769 => absurd c769 (by decide)) (fun c769 => ?_)
                refine q_goto rfl ?_
                refine q_icc4 (z := 4) rfl rfl rfl rfl rfl ?_
                refine q_goto rfl ?_
                refine q_iload rfl rfl rfl ?_
                refine q_bipush rfl rfl ?_
                refine q_icge rfl rfl (fun c770 => absurd c770 (by decide)) (fun c770 => ?_)
                refine q_iconst rfl rfl ?_
                refine q_ist5 rfl rfl rfl rfl ?_
                refine q_iconst rfl rfl ?_
                refine q_ist6 rfl rfl rfl rfl ?_
                refine q_iconst rfl rfl ?_
                refine q_ist7 rfl rfl rfl rfl ?_
                refine q_iload rfl rfl rfl ?_
                refine q_iconst rfl rfl ?_
                refine q_icge rfl rfl (fun c771 => absurd c771 (by decide)) (fun c771 => ?_)
                refine q_iload_n rfl rfl rfl ?_
                refine q_iload rfl rfl rfl ?_
                refine q_ishr rfl rfl (q_tn (z := 31) rfl ?_)
                refine q_iconst rfl rfl ?_
                refine q_iand rfl rfl (q_tn (z := 1) rfl ?_)
                refine q_ifne rfl rfl (fun c772 => absurd c772 (by decide)) (fun c772 => ?_)
                refine q_aload_n rfl rfl rfl ?_
                refine q_getf rfl rfl (by decide) rfl rfl ?_
                refine q_iconst rfl rfl ?_
                refine q_iload rfl rfl rfl ?_
                refine q_imul rfl rfl (q_tn (z := 0) rfl ?_)
                refine q_iload rfl rfl rfl ?_
                refine q_bipush rfl rfl ?_
                refine q_idiv rfl rfl (by decide) (q_tn (z := 0) rfl ?_)
                refine q_iadd rfl rfl (q_tn (z := 0) rfl ?_)
                refine q_iald rfl rfl (by decide) rfl (by decide) (q_tn (z := 1) rfl ?_)
                refine q_iload rfl rfl rfl ?_
                refine q_bipush rfl rfl ?_
                refine q_irem rfl rfl (by decide) (q_tn (z := 4) rfl ?_)
                refine q_ishr rfl rfl (q_tn (z := 0) rfl ?_)
                refine q_iconst rfl rfl ?_
                refine q_iand rfl rfl (q_tn (z := 0) rfl ?_)
                refine q_iconst rfl rfl ?_
                refine q_icne rfl rfl (fun c773 => absurd c773 (by decide)) (fun c773 => ?_)
                refine q_icc6 (z := 1) rfl rfl rfl rfl rfl ?_
                refine q_icc7 (z := 1) rfl rfl rfl rfl rfl ?_
                refine q_goto rfl ?_
                refine q_iload rfl rfl rfl ?_
                refine q_iconst rfl rfl ?_
                refine q_icge rfl rfl (fun c774 => absurd c774 (by decide)) (fun c774 => ?_)
                refine q_iload_n rfl rfl rfl ?_
                refine q_iload rfl rfl rfl ?_
                refine q_ishr rfl rfl (q_tn (z := 15) rfl ?_)
                refine q_iconst rfl rfl ?_
                refine q_iand rfl rfl (q_tn (z := 1) rfl ?_)
                refine q_ifne rfl rfl (fun c775 => absurd c775 (by decide)) (fun c775 => ?_)
                refine q_aload_n rfl rfl rfl ?_
                refine q_getf rfl rfl (by decide) rfl rfl ?_
                refine q_iconst rfl rfl ?_
                refine q_iload rfl rfl rfl ?_
                refine q_imul rfl rfl (q_tn (z := 4) rfl ?_)
                refine q_iload rfl rfl rfl ?_
                refine q_bipush rfl rfl ?_
                refine q_idiv rfl rfl (by decide) (q_tn (z := 0) rfl ?_)
                refine q_iadd rfl rfl (q_tn (z := 4) rfl ?_)
                refine q_iald rfl rfl (by decide) rfl (by decide) (q_tn (z := 1) rfl ?_)
                refine q_iload rfl rfl rfl ?_
                refine q_bipush rfl rfl ?_
                refine q_irem rfl rfl (by decide) (q_tn (z := 4) rfl ?_)
                refine q_ishr rfl rfl (q_tn (z := 0) rfl ?_)
                refine q_iconst rfl rfl ?_
                refine q_iand rfl rfl (q_tn (z := 0) rfl ?_)
                refine q_iconst rfl rfl ?_
                refine q_icne rfl rfl (fun c776 => absurd c776 (by decide)) (fun c776 => ?_)
                refine q_icc6 (z := 2) rfl rfl rfl rfl rfl ?_
                refine q_icc7 (z := 2) rfl rfl rfl rfl rfl ?_
                refine q_goto rfl ?_
                refine q_iload rfl rfl rfl ?_
                refine q_iconst rfl rfl ?_
                refine q_icge rfl rfl (fun c777 => absurd c777 (by decide)) (fun c777 => ?_)
                refine q_iload_n rfl rfl rfl ?_
                refine q_iload rfl rfl rfl ?_
                refine q_ishr rfl rfl (q_tn (z := 7) rfl ?_)
                refine q_iconst rfl rfl ?_
                refine q_iand rfl rfl (q_tn (z := 1) rfl ?_)
                refine q_ifne rfl rfl (fun c778 => absurd c778 (by decide)) (fun c778 => ?_)
                refine q_aload_n rfl rfl rfl ?_
                refine q_getf rfl rfl (by decide) rfl rfl ?_
                refine q_iconst rfl rfl ?_
                refine q_iload rfl rfl rfl ?_
                refine q_imul rfl rfl (q_tn (z := 8) rfl ?_)
                refine q_iload rfl rfl rfl ?_
                as_aux_lemma =>
                  refine q_bipush rfl rfl ?_
                  refine q_idiv rfl rfl (by decide) (q_tn (z := 0) rfl ?_)
                  refine q_iadd rfl rfl (q_tn (z := 8) rfl ?_)
                  refine q_iald rfl rfl (by decide) rfl (by decide) (q_tn (z := 1) rfl ?_)
                  refine q_iload rfl rfl rfl ?_
                  refine q_bipush rfl rfl ?_
                  refine q_irem rfl rfl (by decide) (q_tn (z := 4) rfl ?_)
                  refine q_ishr rfl rfl (q_tn (z := 0) rfl ?_)
                  refine q_iconst rfl rfl ?_
                  refine q_iand rfl rfl (q_tn (z := 0) rfl ?_)
                  refine q_iconst rfl rfl ?_
                  refine q_icne rfl rfl (fun c779 => absurd c779 (by decide)) (fun c779 => ?_)
                  refine q_icc6 (z := 3) rfl rfl rfl rfl rfl ?_
                  refine q_icc7 (z := 3) rfl rfl rfl rfl rfl ?_
                  refine q_goto rfl ?_
                  refine q_iload rfl rfl rfl ?_
                  refine q_iconst rfl rfl ?_
                  refine q_icge rfl rfl (fun c780 => absurd c780 (by decide)) (fun c780 => ?_)
                  refine q_iload_n rfl rfl rfl ?_
                  refine q_iload rfl rfl rfl ?_
                  refine q_ishr rfl rfl (q_tn (z := 3) rfl ?_)
                  refine q_iconst rfl rfl ?_
                  refine q_iand rfl rfl (q_tn (z := 1) rfl ?_)
                  refine q_ifne rfl rfl (fun c781 => absurd c781 (by decide)) (fun c781 => ?_)
                  refine q_aload_n rfl rfl rfl ?_
                  refine q_getf rfl rfl (by decide) rfl rfl ?_
                  refine q_iconst rfl rfl ?_
                  refine q_iload rfl rfl rfl ?_
                  refine q_imul rfl rfl (q_tn (z := 12) rfl ?_)
                  refine q_iload rfl rfl rfl ?_
                  refine q_bipush rfl rfl ?_
                  refine q_idiv rfl rfl (by decide) (q_tn (z := 0) rfl ?_)
                  refine q_iadd rfl rfl (q_tn (z := 12) rfl ?_)
                  refine q_iald rfl rfl (by decide) rfl (by decide) (q_tn (z := 1) rfl ?_)
                  refine q_iload rfl rfl rfl ?_
                  refine q_bipush rfl rfl ?_
                  refine q_irem rfl rfl (by decide) (q_tn (z := 4) rfl ?_)
                  refine q_ishr rfl rfl (q_tn (z := 0) rfl ?_)
                  refine q_iconst rfl rfl ?_
                  refine q_iand rfl rfl (q_tn (z := 0) rfl ?_)
                  refine q_iconst rfl rfl ?_
                  refine q_icne rfl rfl (fun c782 => absurd c782 (by decide)) (fun c782 => ?_)
                  refine q_icc6 (z := 4) rfl rfl rfl rfl rfl ?_
                  refine q_icc7 (z := 4) rfl rfl rfl rfl rfl ?_
                  refine q_goto rfl ?_
                  refine q_iload rfl rfl rfl ?_
                  refine q_iconst rfl rfl ?_
                  refine q_icge rfl rfl (fun c783 => absurd c783 (by decide)) (fun c783 => ?_)
                  refine q_iload_n rfl rfl rfl ?_
                  refine q_iload rfl rfl rfl ?_
                  refine q_ishr rfl rfl (q_tn (z := 1) rfl ?_)
                  refine q_iconst rfl rfl ?_
                  refine q_iand rfl rfl (q_tn (z := 1) rfl ?_)
                  refine q_ifne rfl rfl (fun c784 => absurd c784 (by decide)) (fun c784 => ?_)
                  refine q_aload_n rfl rfl rfl ?_
                  refine q_getf rfl rfl (by decide) rfl rfl ?_
                  refine q_iconst rfl rfl ?_
                  refine q_iload rfl rfl rfl ?_
                  refine q_imul rfl rfl (q_tn (z := 16) rfl ?_)
                  refine q_iload rfl rfl rfl ?_
                  refine q_bipush rfl rfl ?_
                  refine q_idiv rfl rfl (by decide) (q_tn (z := 0) rfl ?_)
                  refine q_iadd rfl rfl (q_tn (z := 16) rfl ?_)
                  refine q_iald rfl rfl (by decide) rfl (by decide) (q_tn (z := 1) rfl ?_)
                  refine q_iload rfl rfl rfl ?_
                  refine q_bipush rfl rfl ?_
                  refine q_irem rfl rfl (by decide) (q_tn (z := 4) rfl ?_)
                  refine q_ishr rfl rfl (q_tn (z := 0) rfl ?_)
                  refine q_iconst rfl rfl ?_
                  refine q_iand rfl rfl (q_tn (z := 0) rfl ?_)
                  refine q_iconst rfl rfl ?_
                  refine q_icne rfl rfl (fun c785 => absurd c785 (by decide)) (fun c785 => ?_)
                  refine q_icc6 (z := 5) rfl rfl rfl rfl rfl ?_
                  refine q_icc7 (z := 5) rfl rfl rfl rfl rfl ?_
                  refine q_goto rfl ?_
                  refine q_iload rfl rfl rfl ?_
                  refine q_iconst rfl rfl ?_
                  refine q_icge rfl rfl (fun c786 => ?_) (fun c786 => absurd (by decide) c786)
                  refine q_iload rfl rfl rfl ?_
                  refine q_iload rfl rfl rfl ?_
                  refine q_icle rfl rfl (fun c787 => ?_) (fun c787 => absurd (by decide) c787)
                  refine q_iload rfl rfl rfl ?_
                  refine q_ist7 rfl rfl rfl rfl ?_
                  refine q_aload_n rfl rfl rfl ?_
                  refine q_getf rfl rfl (by decide) rfl rfl ?_
                  refine q_iload rfl rfl rfl ?_
                  refine q_iald rfl rfl (by decide) ((FM_74 hM).trans (FW_74 S hW)) (by decide) (q_tn (z := (-2)) rfl ?_)
                  refine q_bipush rfl rfl ?_
                  refine q_icne rfl rfl (fun c788 => ?_) (fun c788 => absurd (by decide) c788)
                  refine q_iload rfl rfl rfl ?_
                  refine q_iload_n rfl rfl rfl ?_
                  refine q_iclt rfl rfl (fun c789 => absurd c789 (by decide)) (fun c789 => ?_)
                  refine q_goto rfl ?_
                  refine q_icc4 (z := 5) rfl rfl rfl rfl rfl ?_
                  refine q_goto rfl ?_
                  refine q_iload rfl rfl rfl ?_
                  refine q_bipush rfl rfl ?_
                  refine q_icge rfl rfl (fun c790 => absurd c790 (by decide)) (fun c790 => ?_)
                  refine q_iconst rfl rfl ?_
                  refine q_ist5 rfl rfl rfl rfl ?_
                  refine q_iconst rfl rfl ?_
                  refine q_ist6 rfl rfl rfl rfl ?_
                  refine q_iconst rfl rfl ?_
                  refine q_ist7 rfl rfl rfl rfl ?_
                  refine q_iload rfl rfl rfl ?_
                  refine q_iconst rfl rfl ?_
                  refine q_icge rfl rfl (fun c791 => absurd c791 (by decide)) (fun c791 => ?_)
                  refine q_iload_n rfl rfl rfl ?_
                  refine q_iload rfl rfl rfl ?_
                  refine q_ishr rfl rfl (q_tn (z := 31) rfl ?_)
                  refine q_iconst rfl rfl ?_
                  refine q_iand rfl rfl (q_tn (z := 1) rfl ?_)
                  refine q_ifne rfl rfl (fun c792 => absurd c792 (by decide)) (fun c792 => ?_)
                  refine q_aload_n rfl rfl rfl ?_
                  refine q_getf rfl rfl (by decide) rfl rfl ?_
                  refine q_iconst rfl rfl ?_
                  refine q_iload rfl rfl rfl ?_
                  refine q_imul rfl rfl (q_tn (z := 0) rfl ?_)
                  refine q_iload rfl rfl rfl ?_
                  refine q_bipush rfl rfl ?_
                  refine q_idiv rfl rfl (by decide) (q_tn (z := 0) rfl ?_)
                  refine q_iadd rfl rfl (q_tn (z := 0) rfl ?_)
                  refine q_iald rfl rfl (by decide) rfl (by decide) (q_tn (z := 1) rfl ?_)
                  refine q_iload rfl rfl rfl ?_
                  refine q_bipush rfl rfl ?_
                  refine q_irem rfl rfl (by decide) (q_tn (z := 5) rfl ?_)
                  refine q_ishr rfl rfl (q_tn (z := 0) rfl ?_)
                  refine q_iconst rfl rfl ?_
                  refine q_iand rfl rfl (q_tn (z := 0) rfl ?_)
                  refine q_iconst rfl rfl ?_
                  refine q_icne rfl rfl (fun c793 => absurd c793 (by decide)) (fun c793 => ?_)
                  refine q_icc6 (z := 1) rfl rfl rfl rfl rfl ?_
                  refine q_icc7 (z := 1) rfl rfl rfl rfl rfl ?_
                  refine q_goto rfl ?_
                  refine q_iload rfl rfl rfl ?_
                  refine q_iconst rfl rfl ?_
                  refine q_icge rfl rfl (fun c794 => absurd c794 (by decide)) (fun c794 => ?_)
                  refine q_iload_n rfl rfl rfl ?_
                  refine q_iload rfl rfl rfl ?_
                  refine q_ishr rfl rfl (q_tn (z := 15) rfl ?_)
                  refine q_iconst rfl rfl ?_
                  refine q_iand rfl rfl (q_tn (z := 1) rfl ?_)
                  refine q_ifne rfl rfl (fun c795 => absurd c795 (by decide)) (fun c795 => ?_)
                  refine q_aload_n rfl rfl rfl ?_
                  refine q_getf rfl rfl (by decide) rfl rfl ?_
                  refine q_iconst rfl rfl ?_
                  refine q_iload rfl rfl rfl ?_
                  refine q_imul rfl rfl (q_tn (z := 4) rfl ?_)
                  refine q_iload rfl rfl rfl ?_
                  refine q_bipush rfl rfl ?_
                  refine q_idiv rfl rfl (by decide) (q_tn (z := 0) rfl ?_)
                  refine q_iadd rfl rfl (q_tn (z := 4) rfl ?_)
                  refine q_iald rfl rfl (by decide) rfl (by decide) (q_tn (z := 1) rfl ?_)
                  refine q_iload rfl rfl rfl ?_
                  refine q_bipush rfl rfl ?_
                  refine q_irem rfl rfl (by decide) (q_tn (z := 5) rfl ?_)
                  refine q_ishr rfl rfl (q_tn (z := 0) rfl ?_)
                  refine q_iconst rfl rfl ?_
                  refine q_iand rfl rfl (q_tn (z := 0) rfl ?_)
                  refine q_iconst rfl rfl ?_
                  refine q_icne rfl rfl (fun c796 => absurd c796 (by decide)) (fun c796 => ?_)
                  refine q_icc6 (z := 2) rfl rfl rfl rfl rfl ?_
                  refine q_icc7 (z := 2) rfl rfl rfl rfl rfl ?_
                  refine q_goto rfl ?_
                  refine q_iload rfl rfl rfl ?_
                  refine q_iconst rfl rfl ?_
                  refine q_icge rfl rfl (fun c797 => absurd c797 (by decide)) (fun c797 => ?_)
                  refine q_iload_n rfl rfl rfl ?_
                  refine q_iload rfl rfl rfl ?_
                  refine q_ishr rfl rfl (q_tn (z := 7) rfl ?_)
                  refine q_iconst rfl rfl ?_
                  refine q_iand rfl rfl (q_tn (z := 1) rfl ?_)
                  refine q_ifne rfl rfl (fun c798 => absurd c798 (by decide)) (fun c798 => ?_)
                  refine q_aload_n rfl rfl rfl ?_
                  refine q_getf rfl rfl (by decide) rfl rfl ?_
                  refine q_iconst rfl rfl ?_
                  refine q_iload rfl rfl rfl ?_
                  refine q_imul rfl rfl (q_tn (z := 8) rfl ?_)
                  refine q_iload rfl rfl rfl ?_
                  refine q_bipush rfl rfl ?_
                  refine q_idiv rfl rfl (by decide) (q_tn (z := 0) rfl ?_)
                  refine q_iadd rfl rfl (q_tn (z := 8) rfl ?_)
                  refine q_iald rfl rfl (by decide) rfl (by decide) (q_tn (z := 1) rfl ?_)
                  refine q_iload rfl rfl rfl ?_
                  refine q_bipush rfl rfl ?_
                  refine q_irem rfl rfl (by decide) (q_tn (z := 5) rfl ?_)
                  refine q_ishr rfl rfl (q_tn (z := 0) rfl ?_)
                  refine q_iconst rfl rfl ?_
                  refine q_iand rfl rfl (q_tn (z := 0) rfl ?_)
                  refine q_iconst rfl rfl ?_
                  refine q_icne rfl rfl (fun c799 => absurd c799 (by decide)) (fun c799 => ?_)
                  refine q_icc6 (z := 3) rfl rfl rfl rfl rfl ?_
                  refine q_icc7 (z := 3) rfl rfl rfl rfl rfl ?_
                  refine q_goto rfl ?_
                  refine q_iload rfl rfl rfl ?_
                  refine q_iconst rfl rfl ?_
                  refine q_icge rfl rfl (fun c800 => absurd c800 (by decide)) (fun c800 => ?_)
                  refine q_iload_n rfl rfl rfl ?_
                  refine q_iload rfl rfl rfl ?_
                  refine q_ishr rfl rfl (q_tn (z := 3) rfl ?_)
                  refine q_iconst rfl rfl ?_
                  refine q_iand rfl rfl (q_tn (z := 1) rfl ?_)
                  refine q_ifne rfl rfl (fun c801 => absurd c801 (by decide)) (fun c801 => ?_)
                  refine q_aload_n rfl rfl rfl ?_
                  refine q_getf rfl rfl (by decide) rfl rfl ?_
                  refine q_iconst rfl rfl ?_
                  refine q_iload rfl rfl rfl ?_
                  refine q_imul rfl rfl (q_tn (z := 12) rfl ?_)
                  refine q_iload rfl rfl rfl ?_
                  refine q_bipush rfl rfl ?_
                  refine q_idiv rfl rfl (by decide) (q_tn (z := 0) rfl ?_)
                  refine q_iadd rfl rfl (q_tn (z := 12) rfl ?_)
                  refine q_iald rfl rfl (by decide) rfl (by decide) (q_tn (z := 1) rfl ?_)
                  refine q_iload rfl rfl rfl ?_
                  refine q_bipush rfl rfl ?_
                  refine q_irem rfl rfl (by decide) (q_tn (z := 5) rfl ?_)
                  refine q_ishr rfl rfl (q_tn (z := 0) rfl ?_)
                  refine q_iconst rfl rfl ?_
                  refine q_iand rfl rfl (q_tn (z := 0) rfl ?_)
                  refine q_iconst rfl rfl ?_
                  refine q_icne rfl rfl (fun c802 => absurd c802 (by decide)) (fun c802 => ?_)
                  refine q_icc6 (z := 4) rfl rfl rfl rfl rfl ?_
                  refine q_icc7 (z := 4) rfl rfl rfl rfl rfl ?_
                  refine q_goto rfl ?_
                  refine q_iload rfl rfl rfl ?_
                  refine q_iconst rfl rfl ?_
                  refine q_icge rfl rfl (fun c803 => absurd c803 (by decide)) (fun c803 => ?_)
                  refine q_iload_n rfl rfl rfl ?_
                  refine q_iload rfl rfl rfl ?_
                  refine q_ishr rfl rfl (q_tn (z := 1) rfl ?_)
                  refine q_iconst rfl rfl ?_
                  refine q_iand rfl rfl (q_tn (z := 1) rfl ?_)
                  refine q_ifne rfl rfl (fun c804 => absurd c804 (by decide)) (fun c804 => ?_)
                  refine q_aload_n rfl rfl rfl ?_
                  refine q_getf rfl rfl (by decide) rfl rfl ?_
                  refine q_iconst rfl rfl ?_
                  refine q_iload rfl rfl rfl ?_
                  refine q_imul rfl rfl (q_tn (z := 16) rfl ?_)
                  refine q_iload rfl rfl rfl ?_
                  refine q_bipush rfl rfl ?_
                  refine q_idiv rfl rfl (by decide) (q_tn (z := 0) rfl ?_)
                  refine q_iadd rfl rfl (q_tn (z := 16) rfl ?_)
                  refine q_iald rfl rfl (by decide) rfl (by decide) (q_tn (z := 1) rfl ?_)
                  refine q_iload rfl rfl rfl ?_
                  refine q_bipush rfl rfl ?_
                  refine q_irem rfl rfl (by decide) (q_tn (z := 5) rfl ?_)
                  refine q_ishr rfl rfl (q_tn (z := 0) rfl ?_)
                  refine q_iconst rfl rfl ?_
                  refine q_iand rfl rfl (q_tn (z := 0) rfl ?_)
                  refine q_iconst rfl rfl ?_
                  refine q_icne rfl rfl (fun c805 => absurd c805 (by decide)) (fun c805 => ?_)
                  refine q_icc6 (z := 5) rfl rfl rfl rfl rfl ?_
                  refine q_icc7 (z := 5) rfl rfl rfl rfl rfl ?_
                  refine q_goto rfl ?_
                  refine q_iload rfl rfl rfl ?_
                  refine q_iconst rfl rfl ?_
                  refine q_icge rfl rfl (fun c806 => ?_) (fun c806 => absurd (by decide) c806)
                  refine q_iload rfl rfl rfl ?_
                  refine q_iload rfl rfl rfl ?_
                  refine q_icle rfl rfl (fun c807 => ?_) (fun c807 => absurd (by decide) c807)
                  refine q_iload rfl rfl rfl ?_
                  refine q_ist7 rfl rfl rfl rfl ?_
                  refine q_aload_n rfl rfl rfl ?_
                  refine q_getf rfl rfl (by decide) rfl rfl ?_
                  refine q_iload rfl rfl rfl ?_
                  refine q_iald rfl rfl (by decide) ((FM_74 hM).trans (FW_74 S hW)) (by decide) (q_tn (z := (-2)) rfl ?_)
                  refine q_bipush rfl rfl ?_
                  refine q_icne rfl rfl (fun c808 => ?_) (fun c808 => absurd (by decide) c808)
                  refine q_iload rfl rfl rfl ?_
                  refine q_iload_n rfl rfl rfl ?_
                  refine q_iclt rfl rfl (fun c809 => absurd c809 (by decide)) (fun c809 => ?_)
                  refine q_goto rfl ?_
                  refine q_icc4 (z := 6) rfl rfl rfl rfl rfl ?_
                  refine q_goto rfl ?_
                  refine q_iload rfl rfl rfl ?_
                  refine q_bipush rfl rfl ?_
                  refine q_icge rfl rfl (fun c810 => absurd c810 (by decide)) (fun c810 => ?_)
                  refine q_iconst rfl rfl ?_
                  refine q_ist5 rfl rfl rfl rfl ?_
                  refine q_iconst rfl rfl ?_
                  refine q_ist6 rfl rfl rfl rfl ?_
                  refine q_iconst rfl rfl ?_
                  refine q_ist7 rfl rfl rfl rfl ?_
                  refine q_iload rfl rfl rfl ?_
                  refine q_iconst rfl rfl ?_
                  refine q_icge rfl rfl (fun c811 => absurd c811 (by decide)) (fun c811 => ?_)
                  refine q_iload_n rfl rfl rfl ?_
                  refine q_iload rfl rfl rfl ?_
                  refine q_ishr rfl rfl (q_tn (z := 31) rfl ?_)
                  refine q_iconst rfl rfl ?_
                  refine q_iand rfl rfl (q_tn (z := 1) rfl ?_)
                  refine q_ifne rfl rfl (fun c812 => absurd c812 (by decide)) (fun c812 => ?_)
                  refine q_aload_n rfl rfl rfl ?_
                  refine q_getf rfl rfl (by decide) rfl rfl ?_
                  refine q_iconst rfl rfl ?_
                  refine q_iload rfl rfl rfl ?_
                  refine q_imul rfl rfl (q_tn (z := 0) rfl ?_)
                  refine q_iload rfl rfl rfl ?_
                  refine q_bipush rfl rfl ?_
                  refine q_idiv rfl rfl (by decide) (q_tn (z := 0) rfl ?_)
                  refine q_iadd rfl rfl (q_tn (z := 0) rfl ?_)
                  refine q_iald rfl rfl (by decide) rfl (by decide) (q_tn (z := 1) rfl ?_)
                  refine q_iload rfl rfl rfl ?_
                  refine q_bipush rfl rfl ?_
                  refine q_irem rfl rfl (by decide) (q_tn (z := 6) rfl ?_)
                  refine q_ishr rfl rfl (q_tn (z := 0) rfl ?_)
                  refine q_iconst rfl rfl ?_
                  refine q_iand rfl rfl (q_tn (z := 0) rfl ?_)
                  refine q_iconst rfl rfl ?_
                  refine q_icne rfl rfl (fun c813 => absurd c813 (by decide)) (fun c813 => ?_)
                  refine q_icc6 (z := 1) rfl rfl rfl rfl rfl ?_
                  refine q_icc7 (z := 1) rfl rfl rfl rfl rfl ?_
                  refine q_goto rfl ?_
                  refine q_iload rfl rfl rfl ?_
                  refine q_iconst rfl rfl ?_
                  refine q_icge rfl rfl (fun c814 => absurd c814 (by decide)) (fun c814 => ?_)
                  refine q_iload_n rfl rfl rfl ?_
                  refine q_iload rfl rfl rfl ?_
                  refine q_ishr rfl rfl (q_tn (z := 15) rfl ?_)
                  refine q_iconst rfl rfl ?_
                  refine q_iand rfl rfl (q_tn (z := 1) rfl ?_)
                  refine q_ifne rfl rfl (fun c815 => absurd c815 (by decide)) (fun c815 => ?_)
                  refine q_aload_n rfl rfl rfl ?_
                  refine q_getf rfl rfl (by decide) rfl rfl ?_
                  refine q_iconst rfl rfl ?_
                  refine q_iload rfl rfl rfl ?_
                  refine q_imul rfl rfl (q_tn (z := 4) rfl ?_)
                  refine q_iload rfl rfl rfl ?_
                  refine q_bipush rfl rfl ?_
                  refine q_idiv rfl rfl (by decide) (q_tn (z := 0) rfl ?_)
                  refine q_iadd rfl rfl (q_tn (z := 4) rfl ?_)
                  refine q_iald rfl rfl (by decide) rfl (by decide) (q_tn (z := 1) rfl ?_)
                  refine q_iload rfl rfl rfl ?_
                  refine q_bipush rfl rfl ?_
                  refine q_irem rfl rfl (by decide) (q_tn (z := 6) rfl ?_)
                  refine q_ishr rfl rfl (q_tn (z := 0) rfl ?_)
                  refine q_iconst rfl rfl ?_
                  refine q_iand rfl rfl (q_tn (z := 0) rfl ?_)
                  refine q_iconst rfl rfl ?_
                  refine q_icne rfl rfl (fun c816 => absurd c816 (by decide)) (fun c816 => ?_)
                  refine q_icc6 (z := 2) rfl rfl rfl rfl rfl ?_
                  refine q_icc7 (z := 2) rfl rfl rfl rfl rfl ?_
                  refine q_goto rfl ?_
                  refine q_iload rfl rfl rfl ?_
                  refine q_iconst rfl rfl ?_
                  refine q_icge rfl rfl (fun c817 => absurd c817 (by decide)) (fun c817 => ?_)
                  refine q_iload_n rfl rfl rfl ?_
                  refine q_iload rfl rfl rfl ?_
                  refine q_ishr rfl rfl (q_tn (z := 7) rfl ?_)
                  refine q_iconst rfl rfl ?_
                  refine q_iand rfl rfl (q_tn (z := 1) rfl ?_)
                  refine q_ifne rfl rfl (fun c818 => absurd c818 (by decide)) (fun c818 => ?_)
                  refine q_aload_n rfl rfl rfl ?_
                  refine q_getf rfl rfl (by decide) rfl rfl ?_
                  refine q_iconst rfl rfl ?_
                  refine q_iload rfl rfl rfl ?_
                  refine q_imul rfl rfl (q_tn (z := 8) rfl ?_)
                  refine q_iload rfl rfl rfl ?_
                  refine q_bipush rfl rfl ?_
                  refine q_idiv rfl rfl (by decide) (q_tn (z := 0) rfl ?_)
                  refine q_iadd rfl rfl (q_tn (z := 8) rfl ?_)
                  refine q_iald rfl rfl (by decide) rfl (by decide) (q_tn (z := 1) rfl ?_)
                  refine q_iload rfl rfl rfl ?_
                  refine q_bipush rfl rfl ?_
                  refine q_irem rfl rfl (by decide) (q_tn (z := 6) rfl ?_)
                  refine q_ishr rfl rfl (q_tn (z := 0) rfl ?_)
                  refine q_iconst rfl rfl ?_
                  refine q_iand rfl rfl (q_tn (z := 0) rfl ?_)
                  refine q_iconst rfl rfl ?_
                  refine q_icne rfl rfl (fun c819 => absurd c819 (by decide)) (fun c819 => ?_)
                  refine q_icc6 (z := 3) rfl rfl rfl rfl rfl ?_
                  refine q_icc7 (z := 3) rfl rfl rfl rfl rfl ?_
                  refine q_goto rfl ?_
                  refine q_iload rfl rfl rfl ?_
                  refine q_iconst rfl rfl ?_
                  refine q_icge rfl rfl (fun c820 => absurd c820 (by decide)) (fun c820 => ?_)
                  refine q_iload_n rfl rfl rfl ?_
                  refine q_iload rfl rfl rfl ?_
                  refine q_ishr rfl rfl (q_tn (z := 3) rfl ?_)
                  refine q_iconst rfl rfl ?_
                  refine q_iand rfl rfl (q_tn (z := 1) rfl ?_)
                  refine q_ifne rfl rfl (fun c821 => absurd c821 (by decide)) (fun c821 => ?_)
                  refine q_aload_n rfl rfl rfl ?_
                  refine q_getf rfl rfl (by decide) rfl rfl ?_
                  refine q_iconst rfl rfl ?_
                  refine q_iload rfl rfl rfl ?_
                  refine q_imul rfl rfl (q_tn (z := 12) rfl ?_)
                  refine q_iload rfl rfl rfl ?_
                  refine q_bipush rfl rfl ?_
                  refine q_idiv rfl rfl (by decide) (q_tn (z := 0) rfl ?_)
                  refine q_iadd rfl rfl (q_tn (z := 12) rfl ?_)
                  refine q_iald rfl rfl (by decide) rfl (by decide) (q_tn (z := 1) rfl ?_)
                  refine q_iload rfl rfl rfl ?_
                  refine q_bipush rfl rfl ?_
                  refine q_irem rfl rfl (by decide) (q_tn (z := 6) rfl ?_)
                  refine q_ishr rfl rfl (q_tn (z := 0) rfl ?_)
                  refine q_iconst rfl rfl ?_
                  refine q_iand rfl rfl (q_tn (z := 0) rfl ?_)
                  refine q_iconst rfl rfl ?_
                  refine q_icne rfl rfl (fun c822 => absurd c822 (by decide)) (fun c822 => ?_)
                  refine q_icc6 (z := 4) rfl rfl rfl rfl rfl ?_
                  refine q_icc7 (z := 4) rfl rfl rfl rfl rfl ?_
                  refine q_goto rfl ?_
                  refine q_iload rfl rfl rfl ?_
                  refine q_iconst rfl rfl ?_
                  refine q_icge rfl rfl (fun c823 => absurd c823 (by decide)) (fun c823 => ?_)
                  refine q_iload_n rfl rfl rfl ?_
                  refine q_iload rfl rfl rfl ?_
                  refine q_ishr rfl rfl (q_tn (z := 1) rfl ?_)
                  refine q_iconst rfl rfl ?_
                  refine q_iand rfl rfl (q_tn (z := 1) rfl ?_)
                  refine q_ifne rfl rfl (fun c824 => absurd c824 (by decide)) (fun c824 => ?_)
                  refine q_aload_n rfl rfl rfl ?_
                  refine q_getf rfl rfl (by decide) rfl rfl ?_
                  refine q_iconst rfl rfl ?_
                  refine q_iload rfl rfl rfl ?_
                  refine q_imul rfl rfl (q_tn (z := 16) rfl ?_)
                  refine q_iload rfl rfl rfl ?_
                  refine q_bipush rfl rfl ?_
                  refine q_idiv rfl rfl (by decide) (q_tn (z := 0) rfl ?_)
                  refine q_iadd rfl rfl (q_tn (z := 16) rfl ?_)
                  refine q_iald rfl rfl (by decide) rfl (by decide) (q_tn (z := 1) rfl ?_)
                  refine q_iload rfl rfl rfl ?_
                  refine q_bipush rfl rfl ?_
                  refine q_irem rfl rfl (by decide) (q_tn (z := 6) rfl ?_)
                  refine q_ishr rfl rfl (q_tn (z := 0) rfl ?_)
                  refine q_iconst rfl rfl ?_
                  refine q_iand rfl rfl (q_tn (z := 0) rfl ?_)
                  refine q_iconst rfl rfl ?_
                  refine q_icne rfl rfl (fun c825 => absurd c825 (by decide)) (fun c825 => ?_)
                  refine q_icc6 (z := 5) rfl rfl rfl rfl rfl ?_
                  refine q_icc7 (z := 5) rfl rfl rfl rfl rfl ?_
                  refine q_goto rfl ?_
                  refine q_iload rfl rfl rfl ?_
                  refine q_iconst rfl rfl ?_
                  refine q_icge rfl rfl (fun c826 => ?_) (fun c826 => absurd (by decide) c826)
                  refine q_iload rfl rfl rfl ?_
                  refine q_iload rfl rfl rfl ?_
                  refine q_icle rfl rfl (fun c827 => ?_) (fun c827 => absurd (by decide) c827)
                  refine q_iload rfl rfl rfl ?_
                  refine q_ist7 rfl rfl rfl rfl ?_
                  refine q_aload_n rfl rfl rfl ?_
                  refine q_getf rfl rfl (by decide) rfl rfl ?_
                  refine q_iload rfl rfl rfl ?_
                  refine q_iald rfl rfl (by decide) ((FM_74 hM).trans (FW_74 S hW)) (by decide) (q_tn (z := (-2)) rfl ?_)
                  refine q_bipush rfl rfl ?_
                  refine q_icne rfl rfl (fun c828 => ?_) (fun c828 => absurd (by decide) c828)
                  refine q_iload rfl rfl rfl ?_
                  refine q_iload_n rfl rfl rfl ?_
                  refine q_iclt rfl rfl (fun c829 => absurd c829 (by decide)) (fun c829 => ?_)
                  refine q_goto rfl ?_
                  refine q_icc4 (z := 7) rfl rfl rfl rfl rfl ?_
                  refine q_goto rfl ?_
                  refine q_iload rfl rfl rfl ?_
                  refine q_bipush rfl rfl ?_
                  refine q_icge rfl rfl (fun c830 => absurd c830 (by decide)) (fun c830 => ?_)
                  refine q_iconst rfl rfl ?_
                  refine q_ist5 rfl rfl rfl rfl ?_
                  refine q_iconst rfl rfl ?_
                  refine q_ist6 rfl rfl rfl rfl ?_
                  refine q_iconst rfl rfl ?_
                  refine q_ist7 rfl rfl rfl rfl ?_
                  refine q_iload rfl rfl rfl ?_
                  refine q_iconst rfl rfl ?_
                  refine q_icge rfl rfl (fun c831 => absurd c831 (by decide)) (fun c831 => ?_)
                  refine q_iload_n rfl rfl rfl ?_
                  refine q_iload rfl rfl rfl ?_
                  refine q_ishr rfl rfl (q_tn (z := 31) rfl ?_)
                  refine q_iconst rfl rfl ?_
                  refine q_iand rfl rfl (q_tn (z := 1) rfl ?_)
                  refine q_ifne rfl rfl (fun c832 => absurd c832 (by decide)) (fun c832 => ?_)
                  refine q_aload_n rfl rfl rfl ?_
                  refine q_getf rfl rfl (by decide) rfl rfl ?_
                  refine q_iconst rfl rfl ?_
                  refine q_iload rfl rfl rfl ?_
                  refine q_imul rfl rfl (q_tn (z := 0) rfl ?_)
                  refine q_iload rfl rfl rfl ?_
                  refine q_bipush rfl rfl ?_
                  refine q_idiv rfl rfl (by decide) (q_tn (z := 0) rfl ?_)
                  refine q_iadd rfl rfl (q_tn (z := 0) rfl ?_)
                  refine q_iald rfl rfl (by decide) rfl (by decide) (q_tn (z := 1) rfl ?_)
                  refine q_iload rfl rfl rfl ?_
                  refine q_bipush rfl rfl ?_
                  refine q_irem rfl rfl (by decide) (q_tn (z := 7) rfl ?_)
                  refine q_ishr rfl rfl (q_tn (z := 0) rfl ?_)
                  refine q_iconst rfl rfl ?_
                  refine q_iand rfl rfl (q_tn (z := 0) rfl ?_)
                  refine q_iconst rfl rfl ?_
                  refine q_icne rfl rfl (fun c833 => absurd c833 (by decide)) (fun c833 => ?_)
                  refine q_icc6 (z := 1) rfl rfl rfl rfl rfl ?_
                  refine q_icc7 (z := 1) rfl rfl rfl rfl rfl ?_
                  refine q_goto rfl ?_
                  refine q_iload rfl rfl rfl ?_
                  refine q_iconst rfl rfl ?_
                  refine q_icge rfl rfl (fun c834 => absurd c834 (by decide)) (fun c834 => ?_)
                  refine q_iload_n rfl rfl rfl ?_
                  refine q_iload rfl rfl rfl ?_
                  refine q_ishr rfl rfl (q_tn (z := 15) rfl ?_)
                  refine q_iconst rfl rfl ?_
                  refine q_iand rfl rfl (q_tn (z := 1) rfl ?_)
                  refine q_ifne rfl rfl (fun c835 => absurd c835 (by decide)) (fun c835 => ?_)
                  refine q_aload_n rfl rfl rfl ?_
                  refine q_getf rfl rfl (by decide) rfl rfl ?_
                  refine q_iconst rfl rfl ?_
                  refine q_iload rfl rfl rfl ?_
                  refine q_imul rfl rfl (q_tn (z := 4) rfl ?_)
                  refine q_iload rfl rfl rfl ?_
                  refine q_bipush rfl rfl ?_
                  refine q_idiv rfl rfl (by decide) (q_tn (z := 0) rfl ?_)
                  refine q_iadd rfl rfl (q_tn (z := 4) rfl ?_)
                  refine q_iald rfl rfl (by decide) rfl (by decide) (q_tn (z := 1) rfl ?_)
                  refine q_iload rfl rfl rfl ?_
                  refine q_bipush rfl rfl ?_
                  refine q_irem rfl rfl (by decide) (q_tn (z := 7) rfl ?_)
                  refine q_ishr rfl rfl (q_tn (z := 0) rfl ?_)
                  refine q_iconst rfl rfl ?_
                  refine q_iand rfl rfl (q_tn (z := 0) rfl ?_)
                  refine q_iconst rfl rfl ?_
                  refine q_icne rfl rfl (fun c836 => absurd c836 (by decide)) (fun c836 => ?_)
                  refine q_icc6 (z := 2) rfl rfl rfl rfl rfl ?_
                  refine q_icc7 (z := 2) rfl rfl rfl rfl rfl ?_
                  refine q_goto rfl ?_
                  refine q_iload rfl rfl rfl ?_
                  refine q_iconst rfl rfl ?_
                  refine q_icge rfl rfl (fun c837 => absurd c837 (by decide)) (fun c837 => ?_)
                  refine q_iload_n rfl rfl rfl ?_
                  refine q_iload rfl rfl rfl ?_
                  refine q_ishr rfl rfl (q_tn (z := 7) rfl ?_)
                  refine q_iconst rfl rfl ?_
                  refine q_iand rfl rfl (q_tn (z := 1) rfl ?_)
                  refine q_ifne rfl rfl (fun c838 => absurd c838 (by decide)) (fun c838 => ?_)
                  refine q_aload_n rfl rfl rfl ?_
                  refine q_getf rfl rfl (by decide) rfl rfl ?_
                  refine q_iconst rfl rfl ?_
                  refine q_iload rfl rfl rfl ?_
                  refine q_imul rfl rfl (q_tn (z := 8) rfl ?_)
                  refine q_iload rfl rfl rfl ?_
                  refine q_bipush rfl rfl ?_
                  refine q_idiv rfl rfl (by decide) (q_tn (z := 0) rfl ?_)
                  refine q_iadd rfl rfl (q_tn (z := 8) rfl ?_)
                  refine q_iald rfl rfl (by decide) rfl (by decide) (q_tn (z := 1) rfl ?_)
                  refine q_iload rfl rfl rfl ?_
                  refine q_bipush rfl rfl ?_
                  refine q_irem rfl rfl (by decide) (q_tn (z := 7) rfl ?_)
                  refine q_ishr rfl rfl (q_tn (z := 0) rfl ?_)
                  refine q_iconst rfl rfl ?_
                  refine q_iand rfl rfl (q_tn (z := 0) rfl ?_)
                  refine q_iconst rfl rfl ?_
                  refine q_icne rfl rfl (fun c839 => absurd c839 (by decide)) (fun c839 => ?_)
                  refine q_icc6 (z := 3) rfl rfl rfl rfl rfl ?_
                  refine q_icc7 (z := 3) rfl rfl rfl rfl rfl ?_
                  refine q_goto rfl ?_
                  refine q_iload rfl rfl rfl ?_
                  refine q_iconst rfl rfl ?_
                  refine q_icge rfl rfl (fun c840 => absurd c840 (by decide)) (fun c840 => ?_)
                  refine q_iload_n rfl rfl rfl ?_
                  refine q_iload rfl rfl rfl ?_
                  refine q_ishr rfl rfl (q_tn (z := 3) rfl ?_)
                  refine q_iconst rfl rfl ?_
                  refine q_iand rfl rfl (q_tn (z := 1) rfl ?_)
                  refine q_ifne rfl rfl (fun c841 => absurd c841 (by decide)) (fun c841 => ?_)
                  refine q_aload_n rfl rfl rfl ?_
                  refine q_getf rfl rfl (by decide) rfl rfl ?_
                  refine q_iconst rfl rfl ?_
                  refine q_iload rfl rfl rfl ?_
                  refine q_imul rfl rfl (q_tn (z := 12) rfl ?_)
                  refine q_iload rfl rfl rfl ?_
                  refine q_bipush rfl rfl ?_
                  refine q_idiv rfl rfl (by decide) (q_tn (z := 0) rfl ?_)
                  refine q_iadd rfl rfl (q_tn (z := 12) rfl ?_)
                  refine q_iald rfl rfl (by decide) rfl (by decide) (q_tn (z := 1) rfl ?_)
                  refine q_iload rfl rfl rfl ?_
                  refine q_bipush rfl rfl ?_
                  refine q_irem rfl rfl (by decide) (q_tn (z := 7) rfl ?_)
                  refine q_ishr rfl rfl (q_tn (z := 0) rfl ?_)
                  refine q_iconst rfl rfl ?_
                  refine q_iand rfl rfl (q_tn (z := 0) rfl ?_)
                  refine q_iconst rfl rfl ?_
                  refine q_icne rfl rfl (fun c842 => absurd c842 (by decide)) (fun c842 => ?_)
                  refine q_icc6 (z := 4) rfl rfl rfl rfl rfl ?_
                  refine q_icc7 (z := 4) rfl rfl rfl rfl rfl ?_
                  refine q_goto rfl ?_
                  refine q_iload rfl rfl rfl ?_
                  refine q_iconst rfl rfl ?_
                  refine q_icge rfl rfl (fun c843 => absurd c843 (by decide)) (fun c843 => ?_)
                  refine q_iload_n rfl rfl rfl ?_
                  refine q_iload rfl rfl rfl ?_
                  refine q_ishr rfl rfl (q_tn (z := 1) rfl ?_)
                  refine q_iconst rfl rfl ?_
                  refine q_iand rfl rfl (q_tn (z := 1) rfl ?_)
                  refine q_ifne rfl rfl (fun c844 => absurd c844 (by decide)) (fun c844 => ?_)
                  refine q_aload_n rfl rfl rfl ?_
                  refine q_getf rfl rfl (by decide) rfl rfl ?_
                  refine q_iconst rfl rfl ?_
                  refine q_iload rfl rfl rfl ?_
                  refine q_imul rfl rfl (q_tn (z := 16) rfl ?_)
                  refine q_iload rfl rfl rfl ?_
                  refine q_bipush rfl rfl ?_
                  refine q_idiv rfl rfl (by decide) (q_tn (z := 0) rfl ?_)
                  refine q_iadd rfl rfl (q_tn (z := 16) rfl ?_)
                  refine q_iald rfl rfl (by decide) rfl (by decide) (q_tn (z := 1) rfl ?_)
                  refine q_iload rfl rfl rfl ?_
                  refine q_bipush rfl rfl ?_
                  refine q_irem rfl rfl (by decide) (q_tn (z := 7) rfl ?_)
                  refine q_ishr rfl rfl (q_tn (z := 0) rfl ?_)
                  refine q_iconst rfl rfl ?_
                  refine q_iand rfl rfl (q_tn (z := 0) rfl ?_)
                  refine q_iconst rfl rfl ?_
                  refine q_icne rfl rfl (fun c845 => absurd c845 (by decide)) (fun c845 => ?_)
                  refine q_icc6 (z := 5) rfl rfl rfl rfl rfl ?_
                  refine q_icc7 (z := 5) rfl rfl rfl rfl rfl ?_
                  refine q_goto rfl ?_
                  refine q_iload rfl rfl rfl ?_
                  refine q_iconst rfl rfl ?_
                  refine q_icge rfl rfl (fun c846 => ?_) (fun c846 => absurd (by decide) c846)
                  refine q_iload rfl rfl rfl ?_
                  refine q_iload rfl rfl rfl ?_
                  refine q_icle rfl rfl (fun c847 => ?_) (fun c847 => absurd (by decide) c847)
                  refine q_iload rfl rfl rfl ?_
                  refine q_ist7 rfl rfl rfl rfl ?_
                  refine q_aload_n rfl rfl rfl ?_
                  refine q_getf rfl rfl (by decide) rfl rfl ?_
                  refine q_iload rfl rfl rfl ?_
                  refine q_iald rfl rfl (by decide) ((FM_74 hM).trans (FW_74 S hW)) (by decide) (q_tn (z := (-2)) rfl ?_)
                  refine q_bipush rfl rfl ?_
                  refine q_icne rfl rfl (fun c848 => ?_) (fun c848 => absurd (by decide) c848)
                  refine q_iload rfl rfl rfl ?_
                  refine q_iload_n rfl rfl rfl ?_
                  refine q_iclt rfl rfl (fun c849 => absurd c849 (by decide)) (fun c849 => ?_)
                  refine q_goto rfl ?_
                  refine q_icc4 (z := 8) rfl rfl rfl rfl rfl ?_
                  refine q_goto rfl ?_
                  refine q_iload rfl rfl rfl ?_
                  refine q_bipush rfl rfl ?_
                  refine q_icge rfl rfl (fun c850 => absurd c850 (by decide)) (fun c850 => ?_)
                  refine q_iconst rfl rfl ?_
                  refine q_ist5 rfl rfl rfl rfl ?_
                  refine q_iconst rfl rfl ?_
                  refine q_ist6 rfl rfl rfl rfl ?_
                  refine q_iconst rfl rfl ?_
                  refine q_ist7 rfl rfl rfl rfl ?_
                  refine q_iload rfl rfl rfl ?_
                  refine q_iconst rfl rfl ?_
                  refine q_icge rfl rfl (fun c851 => absurd c851 (by decide)) (fun c851 => ?_)
                  refine q_iload_n rfl rfl rfl ?_
                  refine q_iload rfl rfl rfl ?_
                  refine q_ishr rfl rfl (q_tn (z := 31) rfl ?_)
                  refine q_iconst rfl rfl ?_
                  refine q_iand rfl rfl (q_tn (z := 1) rfl ?_)
                  refine q_ifne rfl rfl (fun c852 => absurd c852 (by decide)) (fun c852 => ?_)
                  refine q_aload_n rfl rfl rfl ?_
                  refine q_getf rfl rfl (by decide) rfl rfl ?_
                  refine q_iconst rfl rfl ?_
                  refine q_iload rfl rfl rfl ?_
                  refine q_imul rfl rfl (q_tn (z := 0) rfl ?_)
                  refine q_iload rfl rfl rfl ?_
                  refine q_bipush rfl rfl ?_
                  refine q_idiv rfl rfl (by decide) (q_tn (z := 0) rfl ?_)
                  refine q_iadd rfl rfl (q_tn (z := 0) rfl ?_)
                  refine q_iald rfl rfl (by decide) rfl (by decide) (q_tn (z := 1) rfl ?_)
                  refine q_iload rfl rfl rfl ?_
                  refine q_bipush rfl rfl ?_
                  refine q_irem rfl rfl (by decide) (q_tn (z := 8) rfl ?_)
                  refine q_ishr rfl rfl (q_tn (z := 0) rfl ?_)
                  refine q_iconst rfl rfl ?_
                  refine q_iand rfl rfl (q_tn (z := 0) rfl ?_)
                  refine q_iconst rfl rfl ?_
                  refine q_icne rfl rfl (fun c853 => absurd c853 (by decide)) (fun c853 => ?_)
                  refine q_icc6 (z := 1) rfl rfl rfl rfl rfl ?_
                  refine q_icc7 (z := 1) rfl rfl rfl rfl rfl ?_
                  refine q_goto rfl ?_
                  refine q_iload rfl rfl rfl ?_
                  refine q_iconst rfl rfl ?_
                  refine q_icge rfl rfl (fun c854 => absurd c854 (by decide)) (fun c854 => ?_)
                  refine q_iload_n rfl rfl rfl ?_
                  refine q_iload rfl rfl rfl ?_
                  refine q_ishr rfl rfl (q_tn (z := 15) rfl ?_)
                  refine q_iconst rfl rfl ?_
                  refine q_iand rfl rfl (q_tn (z := 1) rfl ?_)
                  refine q_ifne rfl rfl (fun c855 => absurd c855 (by decide)) (fun c855 => ?_)
                  refine q_aload_n rfl rfl rfl ?_
                  refine q_getf rfl rfl (by decide) rfl rfl ?_
                  refine q_iconst rfl rfl ?_
                  refine q_iload rfl rfl rfl ?_
                  refine q_imul rfl rfl (q_tn (z := 4) rfl ?_)
                  refine q_iload rfl rfl rfl ?_
                  refine q_bipush rfl rfl ?_
                  refine q_idiv rfl rfl (by decide) (q_tn (z := 0) rfl ?_)
                  refine q_iadd rfl rfl (q_tn (z := 4) rfl ?_)
                  refine q_iald rfl rfl (by decide) rfl (by decide) (q_tn (z := 1) rfl ?_)
                  refine q_iload rfl rfl rfl ?_
                  refine q_bipush rfl rfl ?_
                  refine q_irem rfl rfl (by decide) (q_tn (z := 8) rfl ?_)
                  refine q_ishr rfl rfl (q_tn (z := 0) rfl ?_)
                  refine q_iconst rfl rfl ?_
                  refine q_iand rfl rfl (q_tn (z := 0) rfl ?_)
                  refine q_iconst rfl rfl ?_
                  refine q_icne rfl rfl (fun c856 => absurd c856 (by decide)) (fun c856 => ?_)
                  refine q_icc6 (z := 2) rfl rfl rfl rfl rfl ?_
                  refine q_icc7 (z := 2) rfl rfl rfl rfl rfl ?_
                  refine q_goto rfl ?_
                  refine q_iload rfl rfl rfl ?_
                  refine q_iconst rfl rfl ?_
                  refine q_icge rfl rfl (fun c857 => absurd c857 (by decide)) (fun c857 => ?_)
                  refine q_iload_n rfl rfl rfl ?_
                  refine q_iload rfl rfl rfl ?_
                  refine q_ishr rfl rfl (q_tn (z := 7) rfl ?_)
                  refine q_iconst rfl rfl ?_
                  refine q_iand rfl rfl (q_tn (z := 1) rfl ?_)
                  refine q_ifne rfl rfl (fun c858 => absurd c858 (by decide)) (fun c858 => ?_)
                  refine q_aload_n rfl rfl rfl ?_
                  refine q_getf rfl rfl (by decide) rfl rfl ?_
                  refine q_iconst rfl rfl ?_
                  refine q_iload rfl rfl rfl ?_
                  refine q_imul rfl rfl (q_tn (z := 8) rfl ?_)
                  refine q_iload rfl rfl rfl ?_
                  refine q_bipush rfl rfl ?_
                  refine q_idiv rfl rfl (by decide) (q_tn (z := 0) rfl ?_)
                  refine q_iadd rfl rfl (q_tn (z := 8) rfl ?_)
                  refine q_iald rfl rfl (by decide) rfl (by decide) (q_tn (z := 1) rfl ?_)
                  refine q_iload rfl rfl rfl ?_
                  refine q_bipush rfl rfl ?_
                  refine q_irem rfl rfl (by decide) (q_tn (z := 8) rfl ?_)
                  refine q_ishr rfl rfl (q_tn (z := 0) rfl ?_)
                  refine q_iconst rfl rfl ?_
                  refine q_iand rfl rfl (q_tn (z := 0) rfl ?_)
                  refine q_iconst rfl rfl ?_
                  refine q_icne rfl rfl (fun c859 => absurd c859 (by decide)) (fun c859 => ?_)
                  refine q_icc6 (z := 3) rfl rfl rfl rfl rfl ?_
                  refine q_icc7 (z := 3) rfl rfl rfl rfl rfl ?_
                  refine q_goto rfl ?_
                  refine q_iload rfl rfl rfl ?_
                  refine q_iconst rfl rfl ?_
                  refine q_icge rfl rfl (fun c860 => absurd c860 (by decide)) (fun c860 => ?_)
                  refine q_iload_n rfl rfl rfl ?_
                  refine q_iload rfl rfl rfl ?_
                  refine q_ishr rfl rfl (q_tn (z := 3) rfl ?_)
                  refine q_iconst rfl rfl ?_
                  refine q_iand rfl rfl (q_tn (z := 1) rfl ?_)
                  refine q_ifne rfl rfl (fun c861 => absurd c861 (by decide)) (fun c861 => ?_)
                  refine q_aload_n rfl rfl rfl ?_
                  refine q_getf rfl rfl (by decide) rfl rfl ?_
                  refine q_iconst rfl rfl ?_
                  refine q_iload rfl rfl rfl ?_
                  refine q_imul rfl rfl (q_tn (z := 12) rfl ?_)
                  refine q_iload rfl rfl rfl ?_
                  refine q_bipush rfl rfl ?_
                  refine q_idiv rfl rfl (by decide) (q_tn (z := 0) rfl ?_)
                  refine q_iadd rfl rfl (q_tn (z := 12) rfl ?_)
                  refine q_iald rfl rfl (by decide) rfl (by decide) (q_tn (z := 1) rfl ?_)
                  refine q_iload rfl rfl rfl ?_
                  refine q_bipush rfl rfl ?_
                  refine q_irem rfl rfl (by decide) (q_tn (z := 8) rfl ?_)
                  refine q_ishr rfl rfl (q_tn (z := 0) rfl ?_)
                  refine q_iconst rfl rfl ?_
                  refine q_iand rfl rfl (q_tn (z := 0) rfl ?_)
                  refine q_iconst rfl rfl ?_
                  refine q_icne rfl rfl (fun c862 => absurd c862 (by decide)) (fun c862 => ?_)
                  refine q_icc6 (z := 4) rfl rfl rfl rfl rfl ?_
                  refine q_icc7 (z := 4) rfl rfl rfl rfl rfl ?_
                  refine q_goto rfl ?_
                  refine q_iload rfl rfl rfl ?_
                  refine q_iconst rfl rfl ?_
                  refine q_icge rfl rfl (fun c863 => absurd c863 (by decide)) (fun c863 => ?_)
                  refine q_iload_n rfl rfl rfl ?_
                  refine q_iload rfl rfl rfl ?_
                  refine q_ishr rfl rfl (q_tn (z := 1) rfl ?_)
                  refine q_iconst rfl rfl ?_
                  refine q_iand rfl rfl (q_tn (z := 1) rfl ?_)
                  refine q_ifne rfl rfl (fun c864 => absurd c864 (by decide)) (fun c864 => ?_)
                  refine q_aload_n rfl rfl rfl ?_
                  refine q_getf rfl rfl (by decide) rfl rfl ?_
                  refine q_iconst rfl rfl ?_
                  refine q_iload rfl rfl rfl ?_
                  refine q_imul rfl rfl (q_tn (z := 16) rfl ?_)
                  refine q_iload rfl rfl rfl ?_
                  refine q_bipush rfl rfl ?_
                  refine q_idiv rfl rfl (by decide) (q_tn (z := 0) rfl ?_)
                  refine q_iadd rfl rfl (q_tn (z := 16) rfl ?_)
                  refine q_iald rfl rfl (by decide) rfl (by decide) (q_tn (z := 1) rfl ?_)
                  refine q_iload rfl rfl rfl ?_
                  refine q_bipush rfl rfl ?_
                  refine q_irem rfl rfl (by decide) (q_tn (z := 8) rfl ?_)
                  refine q_ishr rfl rfl (q_tn (z := 0) rfl ?_)
                  refine q_iconst rfl rfl ?_
                  refine q_iand rfl rfl (q_tn (z := 0) rfl ?_)
                  refine q_iconst rfl rfl ?_
                  refine q_icne rfl rfl (fun c865 => absurd c865 (by decide)) (fun c865 => ?_)
                  refine q_icc6 (z := 5) rfl rfl rfl rfl rfl ?_
                  refine q_icc7 (z := 5) rfl rfl rfl rfl rfl ?_
                  refine q_goto rfl ?_
                  refine q_iload rfl rfl rfl ?_
                  refine q_iconst rfl rfl ?_
                  refine q_icge rfl rfl (fun c866 => ?_) (fun c866 => absurd (by decide) c866)
                  refine q_iload rfl rfl rfl ?_
                  refine q_iload rfl rfl rfl ?_
                  refine q_icle rfl rfl (fun c867 => ?_) (fun c867 => absurd (by decide) c867)
                  refine q_iload rfl rfl rfl ?_
                  refine q_ist7 rfl rfl rfl rfl ?_
                  refine q_aload_n rfl rfl rfl ?_
                  refine q_getf rfl rfl (by decide) rfl rfl ?_
                  refine q_iload rfl rfl rfl ?_
                  refine q_iald rfl rfl (by decide) ((FM_74 hM).trans (FW_74 S hW)) (by decide) (q_tn (z := (-2)) rfl ?_)
                  refine q_bipush rfl rfl ?_
                  refine q_icne rfl rfl (fun c868 => ?_) (fun c868 => absurd (by decide) c868)
                  refine q_iload rfl rfl rfl ?_
                  refine q_iload_n rfl rfl rfl ?_
                  refine q_iclt rfl rfl (fun c869 => absurd c869 (by decide)) (fun c869 => ?_)
                  refine q_goto rfl ?_
                  refine q_icc4 (z := 9) rfl rfl rfl rfl rfl ?_
                  refine q_goto rfl ?_
                  refine q_iload rfl rfl rfl ?_
                  refine q_bipush rfl rfl ?_
                  refine q_icge rfl rfl (fun c870 => absurd c870 (by decide)) (fun c870 => ?_)
                  refine q_iconst rfl rfl ?_
                  refine q_ist5 rfl rfl rfl rfl ?_
                  refine q_iconst rfl rfl ?_
                  refine q_ist6 rfl rfl rfl rfl ?_
                  refine q_iconst rfl rfl ?_
                  refine q_ist7 rfl rfl rfl rfl ?_
                  refine q_iload rfl rfl rfl ?_
                  refine q_iconst rfl rfl ?_
                  refine q_icge rfl rfl (fun c871 => absurd c871 (by decide)) (fun c871 => ?_)
                  refine q_iload_n rfl rfl rfl ?_
                  refine q_iload rfl rfl rfl ?_
                  refine q_ishr rfl rfl (q_tn (z := 31) rfl ?_)
                  refine q_iconst rfl rfl ?_
                  refine q_iand rfl rfl (q_tn (z := 1) rfl ?_)
                  refine q_ifne rfl rfl (fun c872 => absurd c872 (by decide)) (fun c872 => ?_)
                  refine q_aload_n rfl rfl rfl ?_
                  refine q_getf rfl rfl (by decide) rfl rfl ?_
                  refine q_iconst rfl rfl ?_
                  refine q_iload rfl rfl rfl ?_
                  refine q_imul rfl rfl (q_tn (z := 0) rfl ?_)
                  refine q_iload rfl rfl rfl ?_
                  refine q_bipush rfl rfl ?_
                  refine q_idiv rfl rfl (by decide) (q_tn (z := 0) rfl ?_)
                  refine q_iadd rfl rfl (q_tn (z := 0) rfl ?_)
                  refine q_iald rfl rfl (by decide) rfl (by decide) (q_tn (z := 1) rfl ?_)
                  refine q_iload rfl rfl rfl ?_
                  refine q_bipush rfl rfl ?_
                  refine q_irem rfl rfl (by decide) (q_tn (z := 9) rfl ?_)
                  refine q_ishr rfl rfl (q_tn (z := 0) rfl ?_)
                  refine q_iconst rfl rfl ?_
                  refine q_iand rfl rfl (q_tn (z := 0) rfl ?_)
                  refine q_iconst rfl rfl ?_
                  refine q_icne rfl rfl (fun c873 => absurd c873 (by decide)) (fun c873 => ?_)
                  refine q_icc6 (z := 1) rfl rfl rfl rfl rfl ?_
                  refine q_icc7 (z := 1) rfl rfl rfl rfl rfl ?_
                  refine q_goto rfl ?_
                  refine q_iload rfl rfl rfl ?_
                  refine q_iconst rfl rfl ?_
                  refine q_icge rfl rfl (fun c874 => absurd c874 (by decide)) (fun c874 => ?_)
                  refine q_iload_n rfl rfl rfl ?_
                  refine q_iload rfl rfl rfl ?_
                  refine q_ishr rfl rfl (q_tn (z := 15) rfl ?_)
                  refine q_iconst rfl rfl ?_
                  refine q_iand rfl rfl (q_tn (z := 1) rfl ?_)
                  refine q_ifne rfl rfl (fun c875 => absurd c875 (by decide)) (fun c875 => ?_)
                  refine q_aload_n rfl rfl rfl ?_
                  refine q_getf rfl rfl (by decide) rfl rfl ?_
                  refine q_iconst rfl rfl ?_
                  refine q_iload rfl rfl rfl ?_
                  refine q_imul rfl rfl (q_tn (z := 4) rfl ?_)
                  refine q_iload rfl rfl rfl ?_
                  refine q_bipush rfl rfl ?_
                  refine q_idiv rfl rfl (by decide) (q_tn (z := 0) rfl ?_)
                  refine q_iadd rfl rfl (q_tn (z := 4) rfl ?_)
                  refine q_iald rfl rfl (by decide) rfl (by decide) (q_tn (z := 1) rfl ?_)
                  refine q_iload rfl rfl rfl ?_
                  refine q_bipush rfl rfl ?_
                  refine q_irem rfl rfl (by decide) (q_tn (z := 9) rfl ?_)
                  refine q_ishr rfl rfl (q_tn (z := 0) rfl ?_)
                  refine q_iconst rfl rfl ?_
                  refine q_iand rfl rfl (q_tn (z := 0) rfl ?_)
                  refine q_iconst rfl rfl ?_
                  refine q_icne rfl rfl (fun c876 => absurd c876 (by decide)) (fun c876 => ?_)
                  refine q_icc6 (z := 2) rfl rfl rfl rfl rfl ?_
                  refine q_icc7 (z := 2) rfl rfl rfl rfl rfl ?_
                  refine q_goto rfl ?_
                  refine q_iload rfl rfl rfl ?_
                  refine q_iconst rfl rfl ?_
                  refine q_icge rfl rfl (fun c877 => absurd c877 (by decide)) (fun c877 => ?_)
                  refine q_iload_n rfl rfl rfl ?_
                  refine q_iload rfl rfl rfl ?_
                  refine q_ishr rfl rfl (q_tn (z := 7) rfl ?_)
                  refine q_iconst rfl rfl ?_
                  refine q_iand rfl rfl (q_tn (z := 1) rfl ?_)
                  refine q_ifne rfl rfl (fun c878 => absurd c878 (by decide)) (fun c878 => ?_)
                  refine q_aload_n rfl rfl rfl ?_
                  refine q_getf rfl rfl (by decide) rfl rfl ?_
                  refine q_iconst rfl rfl ?_
                  refine q_iload rfl rfl rfl ?_
                  refine q_imul rfl rfl (q_tn (z := 8) rfl ?_)
                  refine q_iload rfl rfl rfl ?_
                  refine q_bipush rfl rfl ?_
                  refine q_idiv rfl rfl (by decide) (q_tn (z := 0) rfl ?_)
                  refine q_iadd rfl rfl (q_tn (z := 8) rfl ?_)
                  refine q_iald rfl rfl (by decide) rfl (by decide) (q_tn (z := 1) rfl ?_)
                  refine q_iload rfl rfl rfl ?_
                  refine q_bipush rfl rfl ?_
                  refine q_irem rfl rfl (by decide) (q_tn (z := 9) rfl ?_)
                  refine q_ishr rfl rfl (q_tn (z := 0) rfl ?_)
                  refine q_iconst rfl rfl ?_
                  refine q_iand rfl rfl (q_tn (z := 0) rfl ?_)
                  refine q_iconst rfl rfl ?_
                  refine q_icne rfl rfl (fun c879 => absurd c879 (by decide)) (fun c879 => ?_)
                  refine q_icc6 (z := 3) rfl rfl rfl rfl rfl ?_
                  refine q_icc7 (z := 3) rfl rfl rfl rfl rfl ?_
                  refine q_goto rfl ?_
                  refine q_iload rfl rfl rfl ?_
                  refine q_iconst rfl rfl ?_
                  refine q_icge rfl rfl (fun c880 => absurd c880 (by decide)) (fun c880 => ?_)
                  refine q_iload_n rfl rfl rfl ?_
                  refine q_iload rfl rfl rfl ?_
                  refine q_ishr rfl rfl (q_tn (z := 3) rfl ?_)
                  refine q_iconst rfl rfl ?_
                  refine q_iand rfl rfl (q_tn (z := 1) rfl ?_)
                  refine q_ifne rfl rfl (fun c881 => absurd c881 (by decide)) (fun c881 => ?_)
                  refine q_aload_n rfl rfl rfl ?_
                  refine q_getf rfl rfl (by decide) rfl rfl ?_
                  refine q_iconst rfl rfl ?_
                  refine q_iload rfl rfl rfl ?_
                  refine q_imul rfl rfl (q_tn (z := 12) rfl ?_)
                  refine q_iload rfl rfl rfl ?_
                  refine q_bipush rfl rfl ?_
                  refine q_idiv rfl rfl (by decide) (q_tn (z := 0) rfl ?_)
                  refine q_iadd rfl rfl (q_tn (z := 12) rfl ?_)
                  refine q_iald rfl rfl (by decide) rfl (by decide) (q_tn (z := 1) rfl ?_)
                  refine q_iload rfl rfl rfl ?_
                  refine q_bipush rfl rfl ?_
                  refine q_irem rfl rfl (by decide) (q_tn (z := 9) rfl ?_)
                  refine q_ishr rfl rfl (q_tn (z := 0) rfl ?_)
                  refine q_iconst rfl rfl ?_
                  refine q_iand rfl rfl (q_tn (z := 0) rfl ?_)
                  refine q_iconst rfl rfl ?_
                  refine q_icne rfl rfl (fun c882 => absurd c882 (by decide)) (fun c882 => ?_)
                  refine q_icc6 (z := 4) rfl rfl rfl rfl rfl ?_
                  refine q_icc7 (z := 4) rfl rfl rfl rfl rfl ?_
                  refine q_goto rfl ?_
                  refine q_iload rfl rfl rfl ?_
                  refine q_iconst rfl rfl ?_
                  refine q_icge rfl rfl (fun c883 => absurd c883 (by decide)) (fun c883 => ?_)
                  refine q_iload_n rfl rfl rfl ?_
                  refine q_iload rfl rfl rfl ?_
                  refine q_ishr rfl rfl (q_tn (z := 1) rfl ?_)
                  refine q_iconst rfl rfl ?_
                  refine q_iand rfl rfl (q_tn (z := 1) rfl ?_)
                  refine q_ifne rfl rfl (fun c884 => absurd c884 (by decide)) (fun c884 => ?_)
                  refine q_aload_n rfl rfl rfl ?_
                  refine q_getf rfl rfl (by decide) rfl rfl ?_
                  refine q_iconst rfl rfl ?_
                  refine q_iload rfl rfl rfl ?_
                  refine q_imul rfl rfl (q_tn (z := 16) rfl ?_)
                  refine q_iload rfl rfl rfl ?_
                  refine q_bipush rfl rfl ?_
                  refine q_idiv rfl rfl (by decide) (q_tn (z := 0) rfl ?_)
                  refine q_iadd rfl rfl (q_tn (z := 16) rfl ?_)
                  refine q_iald rfl rfl (by decide) rfl (by decide) (q_tn (z := 1) rfl ?_)
                  refine q_iload rfl rfl rfl ?_
                  refine q_bipush rfl rfl ?_
                  refine q_irem rfl rfl (by decide) (q_tn (z := 9) rfl ?_)
                  refine q_ishr rfl rfl (q_tn (z := 0) rfl ?_)
                  refine q_iconst rfl rfl ?_
                  refine q_iand rfl rfl (q_tn (z := 0) rfl ?_)
                  refine q_iconst rfl rfl ?_
                  refine q_icne rfl rfl (fun c885 => absurd c885 (by decide)) (fun c885 => ?_)
                  refine q_icc6 (z := 5) rfl rfl rfl rfl rfl ?_
                  refine q_icc7 (z := 5) rfl rfl rfl rfl rfl ?_
                  refine q_goto rfl ?_
                  refine q_iload rfl rfl rfl ?_
                  refine q_iconst rfl rfl ?_
                  refine q_icge rfl rfl (fun c886 => ?_) (fun c886 => absurd (by decide) c886)
                  refine q_iload rfl rfl rfl ?_
                  refine q_iload rfl rfl rfl ?_
                  refine q_icle rfl rfl (fun c887 => ?_) (fun c887 => absurd (by decide) c887)
                  refine q_iload rfl rfl rfl ?_
                  refine q_ist7 rfl rfl rfl rfl ?_
                  refine q_aload_n rfl rfl rfl ?_
                  refine q_getf rfl rfl (by decide) rfl rfl ?_
                  refine q_iload rfl rfl rfl ?_
                  refine q_iald rfl rfl (by decide) ((FM_74 hM).trans (FW_74 S hW)) (by decide) (q_tn (z := (-2)) rfl ?_)
                  refine q_bipush rfl rfl ?_
                  refine q_icne rfl rfl (fun c888 => ?_) (fun c888 => absurd (by decide) c888)
                  refine q_iload rfl rfl rfl ?_
                  refine q_iload_n rfl rfl rfl ?_
                  refine q_iclt rfl rfl (fun c889 => absurd c889 (by decide)) (fun c889 => ?_)
                  refine q_goto rfl ?_
                  refine q_icc4 (z := 10) rfl rfl rfl rfl rfl ?_
                  refine q_goto rfl ?_
                  refine q_iload rfl rfl rfl ?_
                  refine q_bipush rfl rfl ?_
                  refine q_icge rfl rfl (fun c890 => absurd c890 (by decide)) (fun c890 => ?_)
                  refine q_iconst rfl rfl ?_
                  refine q_ist5 rfl rfl rfl rfl ?_
                  refine q_iconst rfl rfl ?_
                  refine q_ist6 rfl rfl rfl rfl ?_
                  refine q_iconst rfl rfl ?_
                  refine q_ist7 rfl rfl rfl rfl ?_
                  refine q_iload rfl rfl rfl ?_
                  refine q_iconst rfl rfl ?_
                  refine q_icge rfl rfl (fun c891 => absurd c891 (by decide)) (fun c891 => ?_)
                  refine q_iload_n rfl rfl rfl ?_
                  refine q_iload rfl rfl rfl ?_
                  refine q_ishr rfl rfl (q_tn (z := 31) rfl ?_)
                  refine q_iconst rfl rfl ?_
                  refine q_iand rfl rfl (q_tn (z := 1) rfl ?_)
                  refine q_ifne rfl rfl (fun c892 => absurd c892 (by decide)) (fun c892 => ?_)
                  refine q_aload_n rfl rfl rfl ?_
                  refine q_getf rfl rfl (by decide) rfl rfl ?_
                  refine q_iconst rfl rfl ?_
                  refine q_iload rfl rfl rfl ?_
                  refine q_imul rfl rfl (q_tn (z := 0) rfl ?_)
                  refine q_iload rfl rfl rfl ?_
                  refine q_bipush rfl rfl ?_
                  refine q_idiv rfl rfl (by decide) (q_tn (z := 1) rfl ?_)
                  refine q_iadd rfl rfl (q_tn (z := 1) rfl ?_)
                  refine q_iald rfl rfl (by decide) rfl (by decide) (q_tn (z := 1) rfl ?_)
                  refine q_iload rfl rfl rfl ?_
                  refine q_bipush rfl rfl ?_
                  refine q_irem rfl rfl (by decide) (q_tn (z := 0) rfl ?_)
                  refine q_ishr rfl rfl (q_tn (z := 1) rfl ?_)
                  refine q_iconst rfl rfl ?_
                  refine q_iand rfl rfl (q_tn (z := 1) rfl ?_)
                  refine q_iconst rfl rfl ?_
                  refine q_icne rfl rfl (fun c893 => ?_) (fun c893 => absurd (by decide) c893)
                  refine q_icc5 (z := 1) rfl rfl rfl rfl rfl ?_
                  refine q_goto rfl ?_
                  refine q_icc7 (z := 1) rfl rfl rfl rfl rfl ?_
                  refine q_goto rfl ?_
                  refine q_iload rfl rfl rfl ?_
                  refine q_iconst rfl rfl ?_
                  refine q_icge rfl rfl (fun c894 => absurd c894 (by decide)) (fun c894 => ?_)
                  refine q_iload_n rfl rfl rfl ?_
                  refine q_iload rfl rfl rfl ?_
                  refine q_ishr rfl rfl (q_tn (z := 15) rfl ?_)
                  refine q_iconst rfl rfl ?_
                  refine q_iand rfl rfl (q_tn (z := 1) rfl ?_)
                  refine q_ifne rfl rfl (fun c895 => absurd c895 (by decide)) (fun c895 => ?_)
                  refine q_aload_n rfl rfl rfl ?_
                  refine q_getf rfl rfl (by decide) rfl rfl ?_
                  refine q_iconst rfl rfl ?_
                  refine q_iload rfl rfl rfl ?_
                  refine q_imul rfl rfl (q_tn (z := 4) rfl ?_)
                  refine q_iload rfl rfl rfl ?_
                  refine q_bipush rfl rfl ?_
                  refine q_idiv rfl rfl (by decide) (q_tn (z := 1) rfl ?_)
                  refine q_iadd rfl rfl (q_tn (z := 5) rfl ?_)
                  refine q_iald rfl rfl (by decide) rfl (by decide) (q_tn (z := 1) rfl ?_)
                  refine q_iload rfl rfl rfl ?_
                  refine q_bipush rfl rfl ?_
                  refine q_irem rfl rfl (by decide) (q_tn (z := 0) rfl ?_)
                  refine q_ishr rfl rfl (q_tn (z := 1) rfl ?_)
                  refine q_iconst rfl rfl ?_
                  refine q_iand rfl rfl (q_tn (z := 1) rfl ?_)
                  refine q_iconst rfl rfl ?_
                  refine q_icne rfl rfl (fun c896 => ?_) (fun c896 => absurd (by decide) c896)
                  refine q_icc5 (z := 2) rfl rfl rfl rfl rfl ?_
                  refine q_goto rfl ?_
                  refine q_icc7 (z := 2) rfl rfl rfl rfl rfl ?_
                  refine q_goto rfl ?_
                  refine q_iload rfl rfl rfl ?_
                  refine q_iconst rfl rfl ?_
                  refine q_icge rfl rfl (fun c897 => absurd c897 (by decide)) (fun c897 => ?_)
                  refine q_iload_n rfl rfl rfl ?_
                  refine q_iload rfl rfl rfl ?_
                  refine q_ishr rfl rfl (q_tn (z := 7) rfl ?_)
                  refine q_iconst rfl rfl ?_
                  refine q_iand rfl rfl (q_tn (z := 1) rfl ?_)
                  refine q_ifne rfl rfl (fun c898 => absurd c898 (by decide)) (fun c898 => ?_)
                  refine q_aload_n rfl rfl rfl ?_
                  refine q_getf rfl rfl (by decide) rfl rfl ?_
                  refine q_iconst rfl rfl ?_
                  refine q_iload rfl rfl rfl ?_
                  refine q_imul rfl rfl (q_tn (z := 8) rfl ?_)
                  refine q_iload rfl rfl rfl ?_
                  refine q_bipush rfl rfl ?_
                  refine q_idiv rfl rfl (by decide) (q_tn (z := 1) rfl ?_)
                  refine q_iadd rfl rfl (q_tn (z := 9) rfl ?_)
                  refine q_iald rfl rfl (by decide) rfl (by decide) (q_tn (z := 1) rfl ?_)
                  refine q_iload rfl rfl rfl ?_
                  refine q_bipush rfl rfl ?_
                  refine q_irem rfl rfl (by decide) (q_tn (z := 0) rfl ?_)
                  refine q_ishr rfl rfl (q_tn (z := 1) rfl ?_)
                  refine q_iconst rfl rfl ?_
                  refine q_iand rfl rfl (q_tn (z := 1) rfl ?_)
                  refine q_iconst rfl rfl ?_
                  refine q_icne rfl rfl (fun c899 => ?_) (fun c899 => absurd (by decide) c899)
                  refine q_icc5 (z := 3) rfl rfl rfl rfl rfl ?_
                  refine q_goto rfl ?_
                  refine q_icc7 (z := 3) rfl rfl rfl rfl rfl ?_
                  refine q_goto rfl ?_
                  refine q_iload rfl rfl rfl ?_
                  refine q_iconst rfl rfl ?_
                  refine q_icge rfl rfl (fun c900 => absurd c900 (by decide)) (fun c900 => ?_)
                  refine q_iload_n rfl rfl rfl ?_
                  refine q_iload rfl rfl rfl ?_
                  refine q_ishr rfl rfl (q_tn (z := 3) rfl ?_)
                  refine q_iconst rfl rfl ?_
                  refine q_iand rfl rfl (q_tn (z := 1) rfl ?_)
                  refine q_ifne rfl rfl (fun c901 => absurd c901 (by decide)) (fun c901 => ?_)
                  refine q_aload_n rfl rfl rfl ?_
                  refine q_getf rfl rfl (by decide) rfl rfl ?_
                  refine q_iconst rfl rfl ?_
                  refine q_iload rfl rfl rfl ?_
                  refine q_imul rfl rfl (q_tn (z := 12) rfl ?_)
                  refine q_iload rfl rfl rfl ?_
                  refine q_bipush rfl rfl ?_
                  refine q_idiv rfl rfl (by decide) (q_tn (z := 1) rfl ?_)
                  refine q_iadd rfl rfl (q_tn (z := 13) rfl ?_)
                  refine q_iald rfl rfl (by decide) rfl (by decide) (q_tn (z := 1) rfl ?_)
                  refine q_iload rfl rfl rfl ?_
                  refine q_bipush rfl rfl ?_
                  refine q_irem rfl rfl (by decide) (q_tn (z := 0) rfl ?_)
                  refine q_ishr rfl rfl (q_tn (z := 1) rfl ?_)
                  refine q_iconst rfl rfl ?_
                  refine q_iand rfl rfl (q_tn (z := 1) rfl ?_)
                  refine q_iconst rfl rfl ?_
                  refine q_icne rfl rfl (fun c902 => ?_) (fun c902 => absurd (by decide) c902)
                  refine q_icc5 (z := 4) rfl rfl rfl rfl rfl ?_
                  refine q_goto rfl ?_
                  refine q_icc7 (z := 4) rfl rfl rfl rfl rfl ?_
                  refine q_goto rfl ?_
                  refine q_iload rfl rfl rfl ?_
                  refine q_iconst rfl rfl ?_
                  refine q_icge rfl rfl (fun c903 => absurd c903 (by decide)) (fun c903 => ?_)
                  refine q_iload_n rfl rfl rfl ?_
                  refine q_iload rfl rfl rfl ?_
                  refine q_ishr rfl rfl (q_tn (z := 1) rfl ?_)
                  refine q_iconst rfl rfl ?_
                  refine q_iand rfl rfl (q_tn (z := 1) rfl ?_)
                  refine q_ifne rfl rfl (fun c904 => absurd c904 (by decide)) (fun c904 => ?_)
                  refine q_aload_n rfl rfl rfl ?_
                  refine q_getf rfl rfl (by decide) rfl rfl ?_
                  refine q_iconst rfl rfl ?_
                  refine q_iload rfl rfl rfl ?_
                  refine q_imul rfl rfl (q_tn (z := 16) rfl ?_)
                  refine q_iload rfl rfl rfl ?_
                  refine q_bipush rfl rfl ?_
                  refine q_idiv rfl rfl (by decide) (q_tn (z := 1) rfl ?_)
                  refine q_iadd rfl rfl (q_tn (z := 17) rfl ?_)
                  refine q_iald rfl rfl (by decide) rfl (by decide) (q_tn (z := 1) rfl ?_)
                  refine q_iload rfl rfl rfl ?_
                  refine q_bipush rfl rfl ?_
                  refine q_irem rfl rfl (by decide) (q_tn (z := 0) rfl ?_)
                  refine q_ishr rfl rfl (q_tn (z := 1) rfl ?_)
                  refine q_iconst rfl rfl ?_
                  refine q_iand rfl rfl (q_tn (z := 1) rfl ?_)
                  refine q_iconst rfl rfl ?_
                  refine q_icne rfl rfl (fun c905 => ?_) (fun c905 => absurd (by decide) c905)
                  refine q_icc5 (z := 5) rfl rfl rfl rfl rfl ?_
                  refine q_goto rfl ?_
                  refine q_icc7 (z := 5) rfl rfl rfl rfl rfl ?_
                  refine q_goto rfl ?_
                  refine q_iload rfl rfl rfl ?_
                  refine q_iconst rfl rfl ?_
                  refine q_icge rfl rfl (fun c906 => ?_) (fun c906 => absurd (by decide) c906)
                  refine q_iload rfl rfl rfl ?_
                  refine q_iload rfl rfl rfl ?_
                  refine q_icle rfl rfl (fun c907 => absurd c907 (by decide)) (fun c907 => ?_)
                  refine q_iload rfl rfl rfl ?_
                  refine q_goto rfl ?_
                  refine q_ist7 rfl rfl rfl rfl ?_
                  refine q_aload_n rfl rfl rfl ?_
                  refine q_getf rfl rfl (by decide) rfl rfl ?_
                  refine q_iload rfl rfl rfl ?_
                  refine q_iald rfl rfl (by decide) ((FM_74 hM).trans (FW_74 S hW)) (by decide) (q_tn (z := (-2)) rfl ?_)
                  refine q_bipush rfl rfl ?_
                  refine q_icne rfl rfl (fun c908 => ?_) (fun c908 => absurd (by decide) c908)
                  refine q_iload rfl rfl rfl ?_
                  refine q_iload_n rfl rfl rfl ?_
                  refine q_iclt rfl rfl (fun c909 => absurd c909 (by decide)) (fun c909 => ?_)
                  refine q_goto rfl ?_
                  refine q_icc4 (z := 11) rfl rfl rfl rfl rfl ?_
                  refine q_goto rfl ?_
                  refine q_iload rfl rfl rfl ?_
                  refine q_bipush rfl rfl ?_
                  refine q_icge rfl rfl (fun c910 => absurd c910 (by decide)) (fun c910 => ?_)
                  refine q_iconst rfl rfl ?_
                  refine q_ist5 rfl rfl rfl rfl ?_
                  refine q_iconst rfl rfl ?_
                  refine q_ist6 rfl rfl rfl rfl ?_
                  refine q_iconst rfl rfl ?_
                  refine q_ist7 rfl rfl rfl rfl ?_
                  refine q_iload rfl rfl rfl ?_
                  refine q_iconst rfl rfl ?_
                  refine q_icge rfl rfl (fun c911 => absurd c911 (by decide)) (fun c911 => ?_)
                  refine q_iload_n rfl rfl rfl ?_
                  refine q_iload rfl rfl rfl ?_
                  refine q_ishr rfl rfl (q_tn (z := 31) rfl ?_)
                  refine q_iconst rfl rfl ?_
                  refine q_iand rfl rfl (q_tn (z := 1) rfl ?_)
                  refine q_ifne rfl rfl (fun c912 => absurd c912 (by decide)) (fun c912 => ?_)
                  refine q_aload_n rfl rfl rfl ?_
                  refine q_getf rfl rfl (by decide) rfl rfl ?_
                  refine q_iconst rfl rfl ?_
                  refine q_iload rfl rfl rfl ?_
                  refine q_imul rfl rfl (q_tn (z := 0) rfl ?_)
                  refine q_iload rfl rfl rfl ?_
                  refine q_bipush rfl rfl ?_
                  as_aux_lemma =>
                    refine q_idiv rfl rfl (by decide) (q_tn (z := 1) rfl ?_)
                    refine q_iadd rfl rfl (q_tn (z := 1) rfl ?_)
                    refine q_iald rfl rfl (by decide) rfl (by decide) (q_tn (z := 1) rfl ?_)
                    refine q_iload rfl rfl rfl ?_
                    refine q_bipush rfl rfl ?_
                    refine q_irem rfl rfl (by decide) (q_tn (z := 1) rfl ?_)
                    refine q_ishr rfl rfl (q_tn (z := 0) rfl ?_)
                    refine q_iconst rfl rfl ?_
                    refine q_iand rfl rfl (q_tn (z := 0) rfl ?_)
                    refine q_iconst rfl rfl ?_
                    refine q_icne rfl rfl (fun c913 => absurd c913 (by decide)) (fun c913 => ?_)
                    refine q_icc6 (z := 1) rfl rfl rfl rfl rfl ?_
                    refine q_icc7 (z := 1) rfl rfl rfl rfl rfl ?_
                    refine q_goto rfl ?_
                    refine q_iload rfl rfl rfl ?_
                    refine q_iconst rfl rfl ?_
                    refine q_icge rfl rfl (fun c914 => absurd c914 (by decide)) (fun c914 => ?_)
                    refine q_iload_n rfl rfl rfl ?_
                    refine q_iload rfl rfl rfl ?_
                    refine q_ishr rfl rfl (q_tn (z := 15) rfl ?_)
                    refine q_iconst rfl rfl ?_
                    refine q_iand rfl rfl (q_tn (z := 1) rfl ?_)
                    refine q_ifne rfl rfl (fun c915 => absurd c915 (by decide)) (fun c915 => ?_)
                    refine q_aload_n rfl rfl rfl ?_
                    refine q_getf rfl rfl (by decide) rfl rfl ?_
                    refine q_iconst rfl rfl ?_
                    refine q_iload rfl rfl rfl ?_
                    refine q_imul rfl rfl (q_tn (z := 4) rfl ?_)
                    refine q_iload rfl rfl rfl ?_
                    refine q_bipush rfl rfl ?_
                    refine q_idiv rfl rfl (by decide) (q_tn (z := 1) rfl ?_)
                    refine q_iadd rfl rfl (q_tn (z := 5) rfl ?_)
                    refine q_iald rfl rfl (by decide) rfl (by decide) (q_tn (z := 1) rfl ?_)
                    refine q_iload rfl rfl rfl ?_
                    refine q_bipush rfl rfl ?_
                    refine q_irem rfl rfl (by decide) (q_tn (z := 1) rfl ?_)
                    refine q_ishr rfl rfl (q_tn (z := 0) rfl ?_)
                    refine q_iconst rfl rfl ?_
                    refine q_iand rfl rfl (q_tn (z := 0) rfl ?_)
                    refine q_iconst rfl rfl ?_
                    refine q_icne rfl rfl (fun c916 => absurd c916 (by decide)) (fun c916 => ?_)
                    refine q_icc6 (z := 2) rfl rfl rfl rfl rfl ?_
                    refine q_icc7 (z := 2) rfl rfl rfl rfl rfl ?_
                    refine q_goto rfl ?_
                    refine q_iload rfl rfl rfl ?_
                    refine q_iconst rfl rfl ?_
                    refine q_icge rfl rfl (fun c917 => absurd c917 (by decide)) (fun c917 => ?_)
                    refine q_iload_n rfl rfl rfl ?_
                    refine q_iload rfl rfl rfl ?_
                    refine q_ishr rfl rfl (q_tn (z := 7) rfl ?_)
                    refine q_iconst rfl rfl ?_
                    refine q_iand rfl rfl (q_tn (z := 1) rfl ?_)
                    refine q_ifne rfl rfl (fun c918 => absurd c918 (by decide)) (fun c918 => ?_)
                    refine q_aload_n rfl rfl rfl ?_
                    refine q_getf rfl rfl (by decide) rfl rfl ?_
                    refine q_iconst rfl rfl ?_
                    refine q_iload rfl rfl rfl ?_
                    refine q_imul rfl rfl (q_tn (z := 8) rfl ?_)
                    refine q_iload rfl rfl rfl ?_
                    refine q_bipush rfl rfl ?_
                    refine q_idiv rfl rfl (by decide) (q_tn (z := 1) rfl ?_)
                    refine q_iadd rfl rfl (q_tn (z := 9) rfl ?_)
                    refine q_iald rfl rfl (by decide) rfl (by decide) (q_tn (z := 1) rfl ?_)
                    refine q_iload rfl rfl rfl ?_
                    refine q_bipush rfl rfl ?_
                    refine q_irem rfl rfl (by decide) (q_tn (z := 1) rfl ?_)
                    refine q_ishr rfl rfl (q_tn (z := 0) rfl ?_)
                    refine q_iconst rfl rfl ?_
                    refine q_iand rfl rfl (q_tn (z := 0) rfl ?_)
                    refine q_iconst rfl rfl ?_
                    refine q_icne rfl rfl (fun c919 => absurd c919 (by decide)) (fun c919 => ?_)
                    refine q_icc6 (z := 3) rfl rfl rfl rfl rfl ?_
                    refine q_icc7 (z := 3) rfl rfl rfl rfl rfl ?_
                    refine q_goto rfl ?_
                    refine q_iload rfl rfl rfl ?_
                    refine q_iconst rfl rfl ?_
                    refine q_icge rfl rfl (fun c920 => absurd c920 (by decide)) (fun c920 => ?_)
                    refine q_iload_n rfl rfl rfl ?_
                    refine q_iload rfl rfl rfl ?_
                    refine q_ishr rfl rfl (q_tn (z := 3) rfl ?_)
                    refine q_iconst rfl rfl ?_
                    refine q_iand rfl rfl (q_tn (z := 1) rfl ?_)
                    refine q_ifne rfl rfl (fun c921 => absurd c921 (by decide)) (fun c921 => ?_)
                    refine q_aload_n rfl rfl rfl ?_
                    refine q_getf rfl rfl (by decide) rfl rfl ?_
                    refine q_iconst rfl rfl ?_
                    refine q_iload rfl rfl rfl ?_
                    refine q_imul rfl rfl (q_tn (z := 12) rfl ?_)
                    refine q_iload rfl rfl rfl ?_
                    refine q_bipush rfl rfl ?_
                    refine q_idiv rfl rfl (by decide) (q_tn (z := 1) rfl ?_)
                    refine q_iadd rfl rfl (q_tn (z := 13) rfl ?_)
                    refine q_iald rfl rfl (by decide) rfl (by decide) (q_tn (z := 1) rfl ?_)
                    refine q_iload rfl rfl rfl ?_
                    refine q_bipush rfl rfl ?_
                    refine q_irem rfl rfl (by decide) (q_tn (z := 1) rfl ?_)
                    refine q_ishr rfl rfl (q_tn (z := 0) rfl ?_)
                    refine q_iconst rfl rfl ?_
                    refine q_iand rfl rfl (q_tn (z := 0) rfl ?_)
                    refine q_iconst rfl rfl ?_
                    refine q_icne rfl rfl (fun c922 => absurd c922 (by decide)) (fun c922 => ?_)
                    refine q_icc6 (z := 4) rfl rfl rfl rfl rfl ?_
                    refine q_icc7 (z := 4) rfl rfl rfl rfl rfl ?_
                    refine q_goto rfl ?_
                    refine q_iload rfl rfl rfl ?_
                    refine q_iconst rfl rfl ?_
                    refine q_icge rfl rfl (fun c923 => absurd c923 (by decide)) (fun c923 => ?_)
                    refine q_iload_n rfl rfl rfl ?_
                    refine q_iload rfl rfl rfl ?_
                    refine q_ishr rfl rfl (q_tn (z := 1) rfl ?_)
                    refine q_iconst rfl rfl ?_
                    refine q_iand rfl rfl (q_tn (z := 1) rfl ?_)
                    refine q_ifne rfl rfl (fun c924 => absurd c924 (by decide)) (fun c924 => ?_)
                    refine q_aload_n rfl rfl rfl ?_
                    refine q_getf rfl rfl (by decide) rfl rfl ?_
                    refine q_iconst rfl rfl ?_
                    refine q_iload rfl rfl rfl ?_
                    refine q_imul rfl rfl (q_tn (z := 16) rfl ?_)
                    refine q_iload rfl rfl rfl ?_
                    refine q_bipush rfl rfl ?_
                    refine q_idiv rfl rfl (by decide) (q_tn (z := 1) rfl ?_)
                    refine q_iadd rfl rfl (q_tn (z := 17) rfl ?_)
                    refine q_iald rfl rfl (by decide) rfl (by decide) (q_tn (z := 1) rfl ?_)
                    refine q_iload rfl rfl rfl ?_
                    refine q_bipush rfl rfl ?_
                    refine q_irem rfl rfl (by decide) (q_tn (z := 1) rfl ?_)
                    refine q_ishr rfl rfl (q_tn (z := 0) rfl ?_)
                    refine q_iconst rfl rfl ?_
                    refine q_iand rfl rfl (q_tn (z := 0) rfl ?_)
                    refine q_iconst rfl rfl ?_
                    refine q_icne rfl rfl (fun c925 => absurd c925 (by decide)) (fun c925 => ?_)
                    refine q_icc6 (z := 5) rfl rfl rfl rfl rfl ?_
                    refine q_icc7 (z := 5) rfl rfl rfl rfl rfl ?_
                    refine q_goto rfl ?_
                    refine q_iload rfl rfl rfl ?_
                    refine q_iconst rfl rfl ?_
                    refine q_icge rfl rfl (fun c926 => ?_) (fun c926 => absurd (by decide) c926)
                    refine q_iload rfl rfl rfl ?_
                    refine q_iload rfl rfl rfl ?_
                    refine q_icle rfl rfl (fun c927 => ?_) (fun c927 => absurd (by decide) c927)
                    refine q_iload rfl rfl rfl ?_
                    refine q_ist7 rfl rfl rfl rfl ?_
                    refine q_aload_n rfl rfl rfl ?_
                    refine q_getf rfl rfl (by decide) rfl rfl ?_
                    refine q_iload rfl rfl rfl ?_
                    refine q_iald rfl rfl (by decide) ((FM_74 hM).trans (FW_74 S hW)) (by decide) (q_tn (z := (-2)) rfl ?_)
                    refine q_bipush rfl rfl ?_
                    refine q_icne rfl rfl (fun c928 => ?_) (fun c928 => absurd (by decide) c928)
                    refine q_iload rfl rfl rfl ?_
                    refine q_iload_n rfl rfl rfl ?_
                    refine q_iclt rfl rfl (fun c929 => absurd c929 (by decide)) (fun c929 => ?_)
                    refine q_goto rfl ?_
                    refine q_icc4 (z := 12) rfl rfl rfl rfl rfl ?_
                    refine q_goto rfl ?_
                    refine q_iload rfl rfl rfl ?_
                    refine q_bipush rfl rfl ?_
                    refine q_icge rfl rfl (fun c930 => absurd c930 (by decide)) (fun c930 => ?_)
                    refine q_iconst rfl rfl ?_
                    refine q_ist5 rfl rfl rfl rfl ?_
                    refine q_iconst rfl rfl ?_
                    refine q_ist6 rfl rfl rfl rfl ?_
                    refine q_iconst rfl rfl ?_
                    refine q_ist7 rfl rfl rfl rfl ?_
                    refine q_iload rfl rfl rfl ?_
                    refine q_iconst rfl rfl ?_
                    refine q_icge rfl rfl (fun c931 => absurd c931 (by decide)) (fun c931 => ?_)
                    refine q_iload_n rfl rfl rfl ?_
                    refine q_iload rfl rfl rfl ?_
                    refine q_ishr rfl rfl (q_tn (z := 31) rfl ?_)
                    refine q_iconst rfl rfl ?_
                    refine q_iand rfl rfl (q_tn (z := 1) rfl ?_)
                    refine q_ifne rfl rfl (fun c932 => absurd c932 (by decide)) (fun c932 => ?_)
                    refine q_aload_n rfl rfl rfl ?_
                    refine q_getf rfl rfl (by decide) rfl rfl ?_
                    refine q_iconst rfl rfl ?_
                    refine q_iload rfl rfl rfl ?_
                    refine q_imul rfl rfl (q_tn (z := 0) rfl ?_)
                    refine q_iload rfl rfl rfl ?_
                    refine q_bipush rfl rfl ?_
                    refine q_idiv rfl rfl (by decide) (q_tn (z := 1) rfl ?_)
                    refine q_iadd rfl rfl (q_tn (z := 1) rfl ?_)
                    refine q_iald rfl rfl (by decide) rfl (by decide) (q_tn (z := 1) rfl ?_)
                    refine q_iload rfl rfl rfl ?_
                    refine q_bipush rfl rfl ?_
                    refine q_irem rfl rfl (by decide) (q_tn (z := 2) rfl ?_)
                    refine q_ishr rfl rfl (q_tn (z := 0) rfl ?_)
                    refine q_iconst rfl rfl ?_
                    refine q_iand rfl rfl (q_tn (z := 0) rfl ?_)
                    refine q_iconst rfl rfl ?_
                    refine q_icne rfl rfl (fun c933 => absurd c933 (by decide)) (fun c933 => ?_)
                    refine q_icc6 (z := 1) rfl rfl rfl rfl rfl ?_
                    refine q_icc7 (z := 1) rfl rfl rfl rfl rfl ?_
                    refine q_goto rfl ?_
                    refine q_iload rfl rfl rfl ?_
                    refine q_iconst rfl rfl ?_
                    refine q_icge rfl rfl (fun c934 => absurd c934 (by decide)) (fun c934 => ?_)
                    refine q_iload_n rfl rfl rfl ?_
                    refine q_iload rfl rfl rfl ?_
                    refine q_ishr rfl rfl (q_tn (z := 15) rfl ?_)
                    refine q_iconst rfl rfl ?_
                    refine q_iand rfl rfl (q_tn (z := 1) rfl ?_)
                    refine q_ifne rfl rfl (fun c935 => absurd c935 (by decide)) (fun c935 => ?_)
                    refine q_aload_n rfl rfl rfl ?_
                    refine q_getf rfl rfl (by decide) rfl rfl ?_
                    refine q_iconst rfl rfl ?_
                    refine q_iload rfl rfl rfl ?_
                    refine q_imul rfl rfl (q_tn (z := 4) rfl ?_)
                    refine q_iload rfl rfl rfl ?_
                    refine q_bipush rfl rfl ?_
                    refine q_idiv rfl rfl (by decide) (q_tn (z := 1) rfl ?_)
                    refine q_iadd rfl rfl (q_tn (z := 5) rfl ?_)
                    refine q_iald rfl rfl (by decide) rfl (by decide) (q_tn (z := 1) rfl ?_)
                    refine q_iload rfl rfl rfl ?_
                    refine q_bipush rfl rfl ?_
                    refine q_irem rfl rfl (by decide) (q_tn (z := 2) rfl ?_)
                    refine q_ishr rfl rfl (q_tn (z := 0) rfl ?_)
                    refine q_iconst rfl rfl ?_
                    refine q_iand rfl rfl (q_tn (z := 0) rfl ?_)
                    refine q_iconst rfl rfl ?_
                    refine q_icne rfl rfl (fun c936 => absurd c936 (by decide)) (fun c936 => ?_)
                    refine q_icc6 (z := 2) rfl rfl rfl rfl rfl ?_
                    refine q_icc7 (z := 2) rfl rfl rfl rfl rfl ?_
                    refine q_goto rfl ?_
                    refine q_iload rfl rfl rfl ?_
                    refine q_iconst rfl rfl ?_
                    refine q_icge rfl rfl (fun c937 => absurd c937 (by decide)) (fun c937 => ?_)
                    refine q_iload_n rfl rfl rfl ?_
                    refine q_iload rfl rfl rfl ?_
                    refine q_ishr rfl rfl (q_tn (z := 7) rfl ?_)
                    refine q_iconst rfl rfl ?_
                    refine q_iand rfl rfl (q_tn (z := 1) rfl ?_)
                    refine q_ifne rfl rfl (fun c938 => absurd c938 (by decide)) (fun c938 => ?_)
                    refine q_aload_n rfl rfl rfl ?_
                    refine q_getf rfl rfl (by decide) rfl rfl ?_
                    refine q_iconst rfl rfl ?_
                    refine q_iload rfl rfl rfl ?_
                    refine q_imul rfl rfl (q_tn (z := 8) rfl ?_)
                    refine q_iload rfl rfl rfl ?_
                    refine q_bipush rfl rfl ?_
                    refine q_idiv rfl rfl (by decide) (q_tn (z := 1) rfl ?_)
                    refine q_iadd rfl rfl (q_tn (z := 9) rfl ?_)
                    refine q_iald rfl rfl (by decide) rfl (by decide) (q_tn (z := 1) rfl ?_)
                    refine q_iload rfl rfl rfl ?_
                    refine q_bipush rfl rfl ?_
                    refine q_irem rfl rfl (by decide) (q_tn (z := 2) rfl ?_)
                    refine q_ishr rfl rfl (q_tn (z := 0) rfl ?_)
                    refine q_iconst rfl rfl ?_
                    refine q_iand rfl rfl (q_tn (z := 0) rfl ?_)
                    refine q_iconst rfl rfl ?_
                    refine q_icne rfl rfl (fun c939 => absurd c939 (by decide)) (fun c939 => ?_)
                    refine q_icc6 (z := 3) rfl rfl rfl rfl rfl ?_
                    refine q_icc7 (z := 3) rfl rfl rfl rfl rfl ?_
                    refine q_goto rfl ?_
                    refine q_iload rfl rfl rfl ?_
                    refine q_iconst rfl rfl ?_
                    refine q_icge rfl rfl (fun c940 => absurd c940 (by decide)) (fun c940 => ?_)
                    refine q_iload_n rfl rfl rfl ?_
                    refine q_iload rfl rfl rfl ?_
                    refine q_ishr rfl rfl (q_tn (z := 3) rfl ?_)
                    refine q_iconst rfl rfl ?_
                    refine q_iand rfl rfl (q_tn (z := 1) rfl ?_)
                    refine q_ifne rfl rfl (fun c941 => absurd c941 (by decide)) (fun c941 => ?_)
                    refine q_aload_n rfl rfl rfl ?_
                    refine q_getf rfl rfl (by decide) rfl rfl ?_
                    refine q_iconst rfl rfl ?_
                    refine q_iload rfl rfl rfl ?_
                    refine q_imul rfl rfl (q_tn (z := 12) rfl ?_)
                    refine q_iload rfl rfl rfl ?_
                    refine q_bipush rfl rfl ?_
                    refine q_idiv rfl rfl (by decide) (q_tn (z := 1) rfl ?_)
                    refine q_iadd rfl rfl (q_tn (z := 13) rfl ?_)
                    refine q_iald rfl rfl (by decide) rfl (by decide) (q_tn (z := 1) rfl ?_)
                    refine q_iload rfl rfl rfl ?_
                    refine q_bipush rfl rfl ?_
                    refine q_irem rfl rfl (by decide) (q_tn (z := 2) rfl ?_)
                    refine q_ishr rfl rfl (q_tn (z := 0) rfl ?_)
                    refine q_iconst rfl rfl ?_
                    refine q_iand rfl rfl (q_tn (z := 0) rfl ?_)
                    refine q_iconst rfl rfl ?_
                    refine q_icne rfl rfl (fun c942 => absurd c942 (by decide)) (fun c942 => ?_)
                    refine q_icc6 (z := 4) rfl rfl rfl rfl rfl ?_
                    refine q_icc7 (z := 4) rfl rfl rfl rfl rfl ?_
                    refine q_goto rfl ?_
                    refine q_iload rfl rfl rfl ?_
                    refine q_iconst rfl rfl ?_
                    refine q_icge rfl rfl (fun c943 => absurd c943 (by decide)) (fun c943 => ?_)
                    refine q_iload_n rfl rfl rfl ?_
                    refine q_iload rfl rfl rfl ?_
                    refine q_ishr rfl rfl (q_tn (z := 1) rfl ?_)
                    refine q_iconst rfl rfl ?_
                    refine q_iand rfl rfl (q_tn (z := 1) rfl ?_)
                    refine q_ifne rfl rfl (fun c944 => absurd c944 (by decide)) (fun c944 => ?_)
                    refine q_aload_n rfl rfl rfl ?_
                    refine q_getf rfl rfl (by decide) rfl rfl ?_
                    refine q_iconst rfl rfl ?_
                    refine q_iload rfl rfl rfl ?_
                    refine q_imul rfl rfl (q_tn (z := 16) rfl ?_)
                    refine q_iload rfl rfl rfl ?_
                    refine q_bipush rfl rfl ?_
                    refine q_idiv rfl rfl (by decide) (q_tn (z := 1) rfl ?_)
                    refine q_iadd rfl rfl (q_tn (z := 17) rfl ?_)
                    refine q_iald rfl rfl (by decide) rfl (by decide) (q_tn (z := 1) rfl ?_)
                    refine q_iload rfl rfl rfl ?_
                    refine q_bipush rfl rfl ?_
                    refine q_irem rfl rfl (by decide) (q_tn (z := 2) rfl ?_)
                    refine q_ishr rfl rfl (q_tn (z := 0) rfl ?_)
                    refine q_iconst rfl rfl ?_
                    refine q_iand rfl rfl (q_tn (z := 0) rfl ?_)
                    refine q_iconst rfl rfl ?_
                    refine q_icne rfl rfl (fun c945 => absurd c945 (by decide)) (fun c945 => ?_)
                    refine q_icc6 (z := 5) rfl rfl rfl rfl rfl ?_
                    refine q_icc7 (z := 5) rfl rfl rfl rfl rfl ?_
                    refine q_goto rfl ?_
                    refine q_iload rfl rfl rfl ?_
                    refine q_iconst rfl rfl ?_
                    refine q_icge rfl rfl (fun c946 => ?_) (fun c946 => absurd (by decide) c946)
                    refine q_iload rfl rfl rfl ?_
                    refine q_iload rfl rfl rfl ?_
                    refine q_icle rfl rfl (fun c947 => ?_) (fun c947 => absurd (by decide) c947)
                    refine q_iload rfl rfl rfl ?_
                    refine q_ist7 rfl rfl rfl rfl ?_
                    refine q_aload_n rfl rfl rfl ?_
                    refine q_getf rfl rfl (by decide) rfl rfl ?_
                    refine q_iload rfl rfl rfl ?_
                    refine q_iald rfl rfl (by decide) ((FM_74 hM).trans (FW_74 S hW)) (by decide) (q_tn (z := (-2)) rfl ?_)
                    refine q_bipush rfl rfl ?_
                    refine q_icne rfl rfl (fun c948 => ?_) (fun c948 => absurd (by decide) c948)
                    refine q_iload rfl rfl rfl ?_
                    refine q_iload_n rfl rfl rfl ?_
                    refine q_iclt rfl rfl (fun c949 => absurd c949 (by decide)) (fun c949 => ?_)
                    refine q_goto rfl ?_
                    refine q_icc4 (z := 13) rfl rfl rfl rfl rfl ?_
                    refine q_goto rfl ?_
                    refine q_iload rfl rfl rfl ?_
                    refine q_bipush rfl rfl ?_
                    refine q_icge rfl rfl (fun c950 => absurd c950 (by decide)) (fun c950 => ?_)
                    refine q_iconst rfl rfl ?_
                    refine q_ist5 rfl rfl rfl rfl ?_
                    refine q_iconst rfl rfl ?_
                    refine q_ist6 rfl rfl rfl rfl ?_
                    refine q_iconst rfl rfl ?_
                    refine q_ist7 rfl rfl rfl rfl ?_
                    refine q_iload rfl rfl rfl ?_
                    refine q_iconst rfl rfl ?_
                    refine q_icge rfl rfl (fun c951 => absurd c951 (by decide)) (fun c951 => ?_)
                    refine q_iload_n rfl rfl rfl ?_
                    refine q_iload rfl rfl rfl ?_
                    refine q_ishr rfl rfl (q_tn (z := 31) rfl ?_)
                    refine q_iconst rfl rfl ?_
                    refine q_iand rfl rfl (q_tn (z := 1) rfl ?_)
                    refine q_ifne rfl rfl (fun c952 => absurd c952 (by decide)) (fun c952 => ?_)
                    refine q_aload_n rfl rfl rfl ?_
                    refine q_getf rfl rfl (by decide) rfl rfl ?_
                    refine q_iconst rfl rfl ?_
                    refine q_iload rfl rfl rfl ?_
                    refine q_imul rfl rfl (q_tn (z := 0) rfl ?_)
                    refine q_iload rfl rfl rfl ?_
                    refine q_bipush rfl rfl ?_
                    refine q_idiv rfl rfl (by decide) (q_tn (z := 1) rfl ?_)
                    refine q_iadd rfl rfl (q_tn (z := 1) rfl ?_)
                    refine q_iald rfl rfl (by decide) rfl (by decide) (q_tn (z := 1) rfl ?_)
                    refine q_iload rfl rfl rfl ?_
                    refine q_bipush rfl rfl ?_
                    refine q_irem rfl rfl (by decide) (q_tn (z := 3) rfl ?_)
                    refine q_ishr rfl rfl (q_tn (z := 0) rfl ?_)
                    refine q_iconst rfl rfl ?_
                    refine q_iand rfl rfl (q_tn (z := 0) rfl ?_)
                    refine q_iconst rfl rfl ?_
                    refine q_icne rfl rfl (fun c953 => absurd c953 (by decide)) (fun c953 => ?_)
                    refine q_icc6 (z := 1) rfl rfl rfl rfl rfl ?_
                    refine q_icc7 (z := 1) rfl rfl rfl rfl rfl ?_
                    refine q_goto rfl ?_
                    refine q_iload rfl rfl rfl ?_
                    refine q_iconst rfl rfl ?_
                    refine q_icge rfl rfl (fun c954 => absurd c954 (by decide)) (fun c954 => ?_)
                    refine q_iload_n rfl rfl rfl ?_
                    refine q_iload rfl rfl rfl ?_
                    refine q_ishr rfl rfl (q_tn (z := 15) rfl ?_)
                    refine q_iconst rfl rfl ?_
                    refine q_iand rfl rfl (q_tn (z := 1) rfl ?_)
                    refine q_ifne rfl rfl (fun c955 => absurd c955 (by decide)) (fun c955 => ?_)
                    refine q_aload_n rfl rfl rfl ?_
                    refine q_getf rfl rfl (by decide) rfl rfl ?_
                    refine q_iconst rfl rfl ?_
                    refine q_iload rfl rfl rfl ?_
                    refine q_imul rfl rfl (q_tn (z := 4) rfl ?_)
                    refine q_iload rfl rfl rfl ?_
                    refine q_bipush rfl rfl ?_
                    refine q_idiv rfl rfl (by decide) (q_tn (z := 1) rfl ?_)
                    refine q_iadd rfl rfl (q_tn (z := 5) rfl ?_)
                    refine q_iald rfl rfl (by decide) rfl (by decide) (q_tn (z := 1) rfl ?_)
                    refine q_iload rfl rfl rfl ?_
                    refine q_bipush rfl rfl ?_
                    refine q_irem rfl rfl (by decide) (q_tn (z := 3) rfl ?_)
                    refine q_ishr rfl rfl (q_tn (z := 0) rfl ?_)
                    refine q_iconst rfl rfl ?_
                    refine q_iand rfl rfl (q_tn (z := 0) rfl ?_)
                    refine q_iconst rfl rfl ?_
                    refine q_icne rfl rfl (fun c956 => absurd c956 (by decide)) (fun c956 => ?_)
                    refine q_icc6 (z := 2) rfl rfl rfl rfl rfl ?_
                    refine q_icc7 (z := 2) rfl rfl rfl rfl rfl ?_
                    refine q_goto rfl ?_
                    refine q_iload rfl rfl rfl ?_
                    refine q_iconst rfl rfl ?_
                    refine q_icge rfl rfl (fun c957 => absurd c957 (by decide)) (fun c957 => ?_)
                    refine q_iload_n rfl rfl rfl ?_
                    refine q_iload rfl rfl rfl ?_
                    refine q_ishr rfl rfl (q_tn (z := 7) rfl ?_)
                    refine q_iconst rfl rfl ?_
                    refine q_iand rfl rfl (q_tn (z := 1) rfl ?_)
                    refine q_ifne rfl rfl (fun c958 => absurd c958 (by decide)) (fun c958 => ?_)
                    refine q_aload_n rfl rfl rfl ?_
                    refine q_getf rfl rfl (by decide) rfl rfl ?_
                    refine q_iconst rfl rfl ?_
                    refine q_iload rfl rfl rfl ?_
                    refine q_imul rfl rfl (q_tn (z := 8) rfl ?_)
                    refine q_iload rfl rfl rfl ?_
                    refine q_bipush rfl rfl ?_
                    refine q_idiv rfl rfl (by decide) (q_tn (z := 1) rfl ?_)
                    refine q_iadd rfl rfl (q_tn (z := 9) rfl ?_)
                    refine q_iald rfl rfl (by decide) rfl (by decide) (q_tn (z := 1) rfl ?_)
                    refine q_iload rfl rfl rfl ?_
                    refine q_bipush rfl rfl ?_
                    refine q_irem rfl rfl (by decide) (q_tn (z := 3) rfl ?_)
                    refine q_ishr rfl rfl (q_tn (z := 0) rfl ?_)
                    refine q_iconst rfl rfl ?_
                    refine q_iand rfl rfl (q_tn (z := 0) rfl ?_)
                    refine q_iconst rfl rfl ?_
                    refine q_icne rfl rfl (fun c959 => absurd c959 (by decide)) (fun c959 => ?_)
                    refine q_icc6 (z := 3) rfl rfl rfl rfl rfl ?_
                    refine q_icc7 (z := 3) rfl rfl rfl rfl rfl ?_
                    refine q_goto rfl ?_
                    refine q_iload rfl rfl rfl ?_
                    refine q_iconst rfl rfl ?_
                    refine q_icge rfl rfl (fun c960 => absurd c960 (by decide)) (fun c960 => ?_)
                    refine q_iload_n rfl rfl rfl ?_
                    refine q_iload rfl rfl rfl ?_
                    refine q_ishr rfl rfl (q_tn (z := 3) rfl ?_)
                    refine q_iconst rfl rfl ?_
                    refine q_iand rfl rfl (q_tn (z := 1) rfl ?_)
                    refine q_ifne rfl rfl (fun c961 => absurd c961 (by decide)) (fun c961 => ?_)
                    refine q_aload_n rfl rfl rfl ?_
                    refine q_getf rfl rfl (by decide) rfl rfl ?_
                    refine q_iconst rfl rfl ?_
                    refine q_iload rfl rfl rfl ?_
                    refine q_imul rfl rfl (q_tn (z := 12) rfl ?_)
                    refine q_iload rfl rfl rfl ?_
                    refine q_bipush rfl rfl ?_
                    refine q_idiv rfl rfl (by decide) (q_tn (z := 1) rfl ?_)
                    refine q_iadd rfl rfl (q_tn (z := 13) rfl ?_)
                    refine q_iald rfl rfl (by decide) rfl (by decide) (q_tn (z := 1) rfl ?_)
                    refine q_iload rfl rfl rfl ?_
                    refine q_bipush rfl rfl ?_
                    refine q_irem rfl rfl (by decide) (q_tn (z := 3) rfl ?_)
                    refine q_ishr rfl rfl (q_tn (z := 0) rfl ?_)
                    refine q_iconst rfl rfl ?_
                    refine q_iand rfl rfl (q_tn (z := 0) rfl ?_)
                    refine q_iconst rfl rfl ?_
                    refine q_icne rfl rfl (fun c962 => absurd c962 (by decide)) (fun c962 => ?_)
                    refine q_icc6 (z := 4) rfl rfl rfl rfl rfl ?_
                    refine q_icc7 (z := 4) rfl rfl rfl rfl rfl ?_
                    refine q_goto rfl ?_
                    refine q_iload rfl rfl rfl ?_
                    refine q_iconst rfl rfl ?_
                    refine q_icge rfl rfl (fun c963 => absurd c963 (by decide)) (fun c963 => ?_)
                    refine q_iload_n rfl rfl rfl ?_
                    refine q_iload rfl rfl rfl ?_
                    refine q_ishr rfl rfl (q_tn (z := 1) rfl ?_)
                    refine q_iconst rfl rfl ?_
                    refine q_iand rfl rfl (q_tn (z := 1) rfl ?_)
                    refine q_ifne rfl rfl (fun c964 => absurd c964 (by decide)) (fun c964 => ?_)
                    refine q_aload_n rfl rfl rfl ?_
                    refine q_getf rfl rfl (by decide) rfl rfl ?_
                    refine q_iconst rfl rfl ?_
                    refine q_iload rfl rfl rfl ?_
                    refine q_imul rfl rfl (q_tn (z := 16) rfl ?_)
                    refine q_iload rfl rfl rfl ?_
                    refine q_bipush rfl rfl ?_
                    refine q_idiv rfl rfl (by decide) (q_tn (z := 1) rfl ?_)
                    refine q_iadd rfl rfl (q_tn (z := 17) rfl ?_)
                    refine q_iald rfl rfl (by decide) rfl (by decide) (q_tn (z := 1) rfl ?_)
                    refine q_iload rfl rfl rfl ?_
                    refine q_bipush rfl rfl ?_
                    refine q_irem rfl rfl (by decide) (q_tn (z := 3) rfl ?_)
                    refine q_ishr rfl rfl (q_tn (z := 0) rfl ?_)
                    refine q_iconst rfl rfl ?_
                    refine q_iand rfl rfl (q_tn (z := 0) rfl ?_)
                    refine q_iconst rfl rfl ?_
                    refine q_icne rfl rfl (fun c965 => absurd c965 (by decide)) (fun c965 => ?_)
                    refine q_icc6 (z := 5) rfl rfl rfl rfl rfl ?_
                    refine q_icc7 (z := 5) rfl rfl rfl rfl rfl ?_
                    refine q_goto rfl ?_
                    refine q_iload rfl rfl rfl ?_
                    refine q_iconst rfl rfl ?_
                    refine q_icge rfl rfl (fun c966 => ?_) (fun c966 => absurd (by decide) c966)
                    refine q_iload rfl rfl rfl ?_
                    refine q_iload rfl rfl rfl ?_
                    refine q_icle rfl rfl (fun c967 => ?_) (fun c967 => absurd (by decide) c967)
                    refine q_iload rfl rfl rfl ?_
                    refine q_ist7 rfl rfl rfl rfl ?_
                    refine q_aload_n rfl rfl rfl ?_
                    refine q_getf rfl rfl (by decide) rfl rfl ?_
                    refine q_iload rfl rfl rfl ?_
                    refine q_iald rfl rfl (by decide) ((FM_74 hM).trans (FW_74 S hW)) (by decide) (q_tn (z := (-2)) rfl ?_)
                    refine q_bipush rfl rfl ?_
                    refine q_icne rfl rfl (fun c968 => ?_) (fun c968 => absurd (by decide) c968)
                    refine q_iload rfl rfl rfl ?_
                    refine q_iload_n rfl rfl rfl ?_
                    refine q_iclt rfl rfl (fun c969 => absurd c969 (by decide)) (fun c969 => ?_)
                    refine q_goto rfl ?_
                    refine q_icc4 (z := 14) rfl rfl rfl rfl rfl ?_
                    refine q_goto rfl ?_
                    refine q_iload rfl rfl rfl ?_
                    refine q_bipush rfl rfl ?_
                    refine q_icge rfl rfl (fun c970 => absurd c970 (by decide)) (fun c970 => ?_)
                    refine q_iconst rfl rfl ?_
                    refine q_ist5 rfl rfl rfl rfl ?_
                    refine q_iconst rfl rfl ?_
                    refine q_ist6 rfl rfl rfl rfl ?_
                    refine q_iconst rfl rfl ?_
                    refine q_ist7 rfl rfl rfl rfl ?_
                    refine q_iload rfl rfl rfl ?_
                    refine q_iconst rfl rfl ?_
                    refine q_icge rfl rfl (fun c971 => absurd c971 (by decide)) (fun c971 => ?_)
                    refine q_iload_n rfl rfl rfl ?_
                    refine q_iload rfl rfl rfl ?_
                    refine q_ishr rfl rfl (q_tn (z := 31) rfl ?_)
                    refine q_iconst rfl rfl ?_
                    refine q_iand rfl rfl (q_tn (z := 1) rfl ?_)
                    refine q_ifne rfl rfl (fun c972 => absurd c972 (by decide)) (fun c972 => ?_)
                    refine q_aload_n rfl rfl rfl ?_
                    refine q_getf rfl rfl (by decide) rfl rfl ?_
                    refine q_iconst rfl rfl ?_
                    refine q_iload rfl rfl rfl ?_
                    refine q_imul rfl rfl (q_tn (z := 0) rfl ?_)
                    refine q_iload rfl rfl rfl ?_
                    refine q_bipush rfl rfl ?_
                    refine q_idiv rfl rfl (by decide) (q_tn (z := 1) rfl ?_)
                    refine q_iadd rfl rfl (q_tn (z := 1) rfl ?_)
                    refine q_iald rfl rfl (by decide) rfl (by decide) (q_tn (z := 1) rfl ?_)
                    refine q_iload rfl rfl rfl ?_
                    refine q_bipush rfl rfl ?_
                    refine q_irem rfl rfl (by decide) (q_tn (z := 4) rfl ?_)
                    refine q_ishr rfl rfl (q_tn (z := 0) rfl ?_)
                    refine q_iconst rfl rfl ?_
                    refine q_iand rfl rfl (q_tn (z := 0) rfl ?_)
                    refine q_iconst rfl rfl ?_
                    refine q_icne rfl rfl (fun c973 => absurd c973 (by decide)) (fun c973 => ?_)
                    refine q_icc6 (z := 1) rfl rfl rfl rfl rfl ?_
                    refine q_icc7 (z := 1) rfl rfl rfl rfl rfl ?_
                    refine q_goto rfl ?_
                    refine q_iload rfl rfl rfl ?_
                    refine q_iconst rfl rfl ?_
                    refine q_icge rfl rfl (fun c974 => absurd c974 (by decide)) (fun c974 => ?_)
                    refine q_iload_n rfl rfl rfl ?_
                    refine q_iload rfl rfl rfl ?_
                    refine q_ishr rfl rfl (q_tn (z := 15) rfl ?_)
                    refine q_iconst rfl rfl ?_
                    refine q_iand rfl rfl (q_tn (z := 1) rfl ?_)
                    refine q_ifne rfl rfl (fun c975 => absurd c975 (by decide)) (fun c975 => ?_)
                    refine q_aload_n rfl rfl rfl ?_
                    refine q_getf rfl rfl (by decide) rfl rfl ?_
                    refine q_iconst rfl rfl ?_
                    refine q_iload rfl rfl rfl ?_
                    refine q_imul rfl rfl (q_tn (z := 4) rfl ?_)
                    refine q_iload rfl rfl rfl ?_
                    refine q_bipush rfl rfl ?_
                    refine q_idiv rfl rfl (by decide) (q_tn (z := 1) rfl ?_)
                    refine q_iadd rfl rfl (q_tn (z := 5) rfl ?_)
                    refine q_iald rfl rfl (by decide) rfl (by decide) (q_tn (z := 1) rfl ?_)
                    refine q_iload rfl rfl rfl ?_
                    refine q_bipush rfl rfl ?_
                    refine q_irem rfl rfl (by decide) (q_tn (z := 4) rfl ?_)
                    refine q_ishr rfl rfl (q_tn (z := 0) rfl ?_)
                    refine q_iconst rfl rfl ?_
                    refine q_iand rfl rfl (q_tn (z := 0) rfl ?_)
                    refine q_iconst rfl rfl ?_
                    refine q_icne rfl rfl (fun c976 => absurd c976 (by decide)) (fun c976 => ?_)
                    refine q_icc6 (z := 2) rfl rfl rfl rfl rfl ?_
                    refine q_icc7 (z := 2) rfl rfl rfl rfl rfl ?_
                    refine q_goto rfl ?_
                    refine q_iload rfl rfl rfl ?_
                    refine q_iconst rfl rfl ?_
                    refine q_icge rfl rfl (fun c977 => absurd c977 (by decide)) (fun c977 => ?_)
                    refine q_iload_n rfl rfl rfl ?_
                    refine q_iload rfl rfl rfl ?_
                    refine q_ishr rfl rfl (q_tn (z := 7) rfl ?_)
                    refine q_iconst rfl rfl ?_
                    refine q_iand rfl rfl (q_tn (z := 1) rfl ?_)
                    refine q_ifne rfl rfl (fun c978 => absurd c978 (by decide)) (fun c978 => ?_)
                    refine q_aload_n rfl rfl rfl ?_
                    refine q_getf rfl rfl (by decide) rfl rfl ?_
                    refine q_iconst rfl rfl ?_
                    refine q_iload rfl rfl rfl ?_
                    refine q_imul rfl rfl (q_tn (z := 8) rfl ?_)
                    refine q_iload rfl rfl rfl ?_
                    refine q_bipush rfl rfl ?_
                    refine q_idiv rfl rfl (by decide) (q_tn (z := 1) rfl ?_)
                    refine q_iadd rfl rfl (q_tn (z := 9) rfl ?_)
                    refine q_iald rfl rfl (by decide) rfl (by decide) (q_tn (z := 1) rfl ?_)
                    refine q_iload rfl rfl rfl ?_
                    refine q_bipush rfl rfl ?_
                    refine q_irem rfl rfl (by decide) (q_tn (z := 4) rfl ?_)
                    refine q_ishr rfl rfl (q_tn (z := 0) rfl ?_)
                    refine q_iconst rfl rfl ?_
                    refine q_iand rfl rfl (q_tn (z := 0) rfl ?_)
                    refine q_iconst rfl rfl ?_
                    refine q_icne rfl rfl (fun c979 => absurd c979 (by decide)) (fun c979 => ?_)
                    refine q_icc6 (z := 3) rfl rfl rfl rfl rfl ?_
                    refine q_icc7 (z := 3) rfl rfl rfl rfl rfl ?_
                    refine q_goto rfl ?_
                    refine q_iload rfl rfl rfl ?_
                    refine q_iconst rfl rfl ?_
                    refine q_icge rfl rfl (fun c980 => absurd c980 (by decide)) (fun c980 => ?_)
                    refine q_iload_n rfl rfl rfl ?_
                    refine q_iload rfl rfl rfl ?_
                    refine q_ishr rfl rfl (q_tn (z := 3) rfl ?_)
                    refine q_iconst rfl rfl ?_
                    refine q_iand rfl rfl (q_tn (z := 1) rfl ?_)
                    refine q_ifne rfl rfl (fun c981 => absurd c981 (by decide)) (fun c981 => ?_)
                    refine q_aload_n rfl rfl rfl ?_
                    refine q_getf rfl rfl (by decide) rfl rfl ?_
                    refine q_iconst rfl rfl ?_
                    refine q_iload rfl rfl rfl ?_
                    refine q_imul rfl rfl (q_tn (z := 12) rfl ?_)
                    refine q_iload rfl rfl rfl ?_
                    refine q_bipush rfl rfl ?_
                    refine q_idiv rfl rfl (by decide) (q_tn (z := 1) rfl ?_)
                    refine q_iadd rfl rfl (q_tn (z := 13) rfl ?_)
                    refine q_iald rfl rfl (by decide) rfl (by decide) (q_tn (z := 1) rfl ?_)
                    refine q_iload rfl rfl rfl ?_
                    refine q_bipush rfl rfl ?_
                    refine q_irem rfl rfl (by decide) (q_tn (z := 4) rfl ?_)
                    refine q_ishr rfl rfl (q_tn (z := 0) rfl ?_)
                    refine q_iconst rfl rfl ?_
                    refine q_iand rfl rfl (q_tn (z := 0) rfl ?_)
                    refine q_iconst rfl rfl ?_
                    refine q_icne rfl rfl (fun c982 => absurd c982 (by decide)) (fun c982 => ?_)
                    refine q_icc6 (z := 4) rfl rfl rfl rfl rfl ?_
                    refine q_icc7 (z := 4) rfl rfl rfl rfl rfl ?_
                    refine q_goto rfl ?_
                    refine q_iload rfl rfl rfl ?_
                    refine q_iconst rfl rfl ?_
                    refine q_icge rfl rfl (fun c983 => absurd c983 (by decide)) (fun c983 => ?_)
                    refine q_iload_n rfl rfl rfl ?_
                    refine q_iload rfl rfl rfl ?_
                    refine q_ishr rfl rfl (q_tn (z := 1) rfl ?_)
                    refine q_iconst rfl rfl ?_
                    refine q_iand rfl rfl (q_tn (z := 1) rfl ?_)
                    refine q_ifne rfl rfl (fun c984 => absurd c984 (by decide)) (fun c984 => ?_)
                    refine q_aload_n rfl rfl rfl ?_
                    refine q_getf rfl rfl (by decide) rfl rfl ?_
                    refine q_iconst rfl rfl ?_
                    refine q_iload rfl rfl rfl ?_
                    refine q_imul rfl rfl (q_tn (z := 16) rfl ?_)
                    refine q_iload rfl rfl rfl ?_
                    refine q_bipush rfl rfl ?_
                    refine q_idiv rfl rfl (by decide) (q_tn (z := 1) rfl ?_)
                    refine q_iadd rfl rfl (q_tn (z := 17) rfl ?_)
                    refine q_iald rfl rfl (by decide) rfl (by decide) (q_tn (z := 1) rfl ?_)
                    refine q_iload rfl rfl rfl ?_
                    refine q_bipush rfl rfl ?_
                    refine q_irem rfl rfl (by decide) (q_tn (z := 4) rfl ?_)
                    refine q_ishr rfl rfl (q_tn (z := 0) rfl ?_)
                    refine q_iconst rfl rfl ?_
                    refine q_iand rfl rfl (q_tn (z := 0) rfl ?_)
                    refine q_iconst rfl rfl ?_
                    refine q_icne rfl rfl (fun c985 => absurd c985 (by decide)) (fun c985 => ?_)
                    refine q_icc6 (z := 5) rfl rfl rfl rfl rfl ?_
                    refine q_icc7 (z := 5) rfl rfl rfl rfl rfl ?_
                    refine q_goto rfl ?_
                    refine q_iload rfl rfl rfl ?_
                    refine q_iconst rfl rfl ?_
                    refine q_icge rfl rfl (fun c986 => ?_) (fun c986 => absurd (by decide) c986)
                    refine q_iload rfl rfl rfl ?_
                    refine q_iload rfl rfl rfl ?_
                    refine q_icle rfl rfl (fun c987 => ?_) (fun c987 => absurd (by decide) c987)
                    refine q_iload rfl rfl rfl ?_
                    refine q_ist7 rfl rfl rfl rfl ?_
                    refine q_aload_n rfl rfl rfl ?_
                    refine q_getf rfl rfl (by decide) rfl rfl ?_
                    refine q_iload rfl rfl rfl ?_
                    refine q_iald rfl rfl (by decide) ((FM_74 hM).trans (FW_74 S hW)) (by decide) (q_tn (z := (-2)) rfl ?_)
                    refine q_bipush rfl rfl ?_
                    refine q_icne rfl rfl (fun c988 => ?_) (fun c988 => absurd (by decide) c988)
                    refine q_iload rfl rfl rfl ?_
                    refine q_iload_n rfl rfl rfl ?_
                    refine q_iclt rfl rfl (fun c989 => absurd c989 (by decide)) (fun c989 => ?_)
                    refine q_goto rfl ?_
                    refine q_icc4 (z := 15) rfl rfl rfl rfl rfl ?_
                    refine q_goto rfl ?_
                    refine q_iload rfl rfl rfl ?_
                    refine q_bipush rfl rfl ?_
                    refine q_icge rfl rfl (fun c990 => absurd c990 (by decide)) (fun c990 => ?_)
                    refine q_iconst rfl rfl ?_
                    refine q_ist5 rfl rfl rfl rfl ?_
                    refine q_iconst rfl rfl ?_
                    refine q_ist6 rfl rfl rfl rfl ?_
                    refine q_iconst rfl rfl ?_
                    refine q_ist7 rfl rfl rfl rfl ?_
                    refine q_iload rfl rfl rfl ?_
                    refine q_iconst rfl rfl ?_
                    refine q_icge rfl rfl (fun c991 => absurd c991 (by decide)) (fun c991 => ?_)
                    refine q_iload_n rfl rfl rfl ?_
                    refine q_iload rfl rfl rfl ?_
                    refine q_ishr rfl rfl (q_tn (z := 31) rfl ?_)
                    refine q_iconst rfl rfl ?_
                    refine q_iand rfl rfl (q_tn (z := 1) rfl ?_)
                    refine q_ifne rfl rfl (fun c992 => absurd c992 (by decide)) (fun c992 => ?_)
                    refine q_aload_n rfl rfl rfl ?_
                    refine q_getf rfl rfl (by decide) rfl rfl ?_
                    refine q_iconst rfl rfl ?_
                    refine q_iload rfl rfl rfl ?_
                    refine q_imul rfl rfl (q_tn (z := 0) rfl ?_)
                    refine q_iload rfl rfl rfl ?_
                    refine q_bipush rfl rfl ?_
                    refine q_idiv rfl rfl (by decide) (q_tn (z := 1) rfl ?_)
                    refine q_iadd rfl rfl (q_tn (z := 1) rfl ?_)
                    refine q_iald rfl rfl (by decide) rfl (by decide) (q_tn (z := 1) rfl ?_)
                    refine q_iload rfl rfl rfl ?_
                    refine q_bipush rfl rfl ?_
                    refine q_irem rfl rfl (by decide) (q_tn (z := 5) rfl ?_)
                    refine q_ishr rfl rfl (q_tn (z := 0) rfl ?_)
                    refine q_iconst rfl rfl ?_
                    refine q_iand rfl rfl (q_tn (z := 0) rfl ?_)
                    refine q_iconst rfl rfl ?_
                    refine q_icne rfl rfl (fun c993 => absurd c993 (by decide)) (fun c993 => ?_)
                    refine q_icc6 (z := 1) rfl rfl rfl rfl rfl ?_
                    refine q_icc7 (z := 1) rfl rfl rfl rfl rfl ?_
                    refine q_goto rfl ?_
                    refine q_iload rfl rfl rfl ?_
                    refine q_iconst rfl rfl ?_
                    refine q_icge rfl rfl (fun c994 => absurd c994 (by decide)) (fun c994 => ?_)
                    refine q_iload_n rfl rfl rfl ?_
                    refine q_iload rfl rfl rfl ?_
                    refine q_ishr rfl rfl (q_tn (z := 15) rfl ?_)
                    refine q_iconst rfl rfl ?_
                    refine q_iand rfl rfl (q_tn (z := 1) rfl ?_)
                    refine q_ifne rfl rfl (fun c995 => absurd c995 (by decide)) (fun c995 => ?_)
                    refine q_aload_n rfl rfl rfl ?_
                    refine q_getf rfl rfl (by decide) rfl rfl ?_
                    refine q_iconst rfl rfl ?_
                    refine q_iload rfl rfl rfl ?_
                    refine q_imul rfl rfl (q_tn (z := 4) rfl ?_)
                    refine q_iload rfl rfl rfl ?_
                    refine q_bipush rfl rfl ?_
                    refine q_idiv rfl rfl (by decide) (q_tn (z := 1) rfl ?_)
                    refine q_iadd rfl rfl (q_tn (z := 5) rfl ?_)
                    refine q_iald rfl rfl (by decide) rfl (by decide) (q_tn (z := 1) rfl ?_)
                    refine q_iload rfl rfl rfl ?_
                    refine q_bipush rfl rfl ?_
                    refine q_irem rfl rfl (by decide) (q_tn (z := 5) rfl ?_)
                    refine q_ishr rfl rfl (q_tn (z := 0) rfl ?_)
                    refine q_iconst rfl rfl ?_
                    refine q_iand rfl rfl (q_tn (z := 0) rfl ?_)
                    refine q_iconst rfl rfl ?_
                    refine q_icne rfl rfl (fun c996 => absurd c996 (by decide)) (fun c996 => ?_)
                    refine q_icc6 (z := 2) rfl rfl rfl rfl rfl ?_
                    refine q_icc7 (z := 2) rfl rfl rfl rfl rfl ?_
                    refine q_goto rfl ?_
                    refine q_iload rfl rfl rfl ?_
                    refine q_iconst rfl rfl ?_
                    refine q_icge rfl rfl (fun c997 => absurd c997 (by decide)) (fun c997 => ?_)
                    refine q_iload_n rfl rfl rfl ?_
                    refine q_iload rfl rfl rfl ?_
                    refine q_ishr rfl rfl (q_tn (z := 7) rfl ?_)
                    refine q_iconst rfl rfl ?_
                    refine q_iand rfl rfl (q_tn (z := 1) rfl ?_)
                    refine q_ifne rfl rfl (fun c998 => absurd c998 (by decide)) (fun c998 => ?_)
                    refine q_aload_n rfl rfl rfl ?_
                    refine q_getf rfl rfl (by decide) rfl rfl ?_
                    refine q_iconst rfl rfl ?_
                    refine q_iload rfl rfl rfl ?_
                    refine q_imul rfl rfl (q_tn (z := 8) rfl ?_)
                    refine q_iload rfl rfl rfl ?_
                    refine q_bipush rfl rfl ?_
                    refine q_idiv rfl rfl (by decide) (q_tn (z := 1) rfl ?_)
                    refine q_iadd rfl rfl (q_tn (z := 9) rfl ?_)
                    refine q_iald rfl rfl (by decide) rfl (by decide) (q_tn (z := 1) rfl ?_)
                    refine q_iload rfl rfl rfl ?_
                    refine q_bipush rfl rfl ?_
                    refine q_irem rfl rfl (by decide) (q_tn (z := 5) rfl ?_)
                    refine q_ishr rfl rfl (q_tn (z := 0) rfl ?_)
                    refine q_iconst rfl rfl ?_
                    refine q_iand rfl rfl (q_tn (z := 0) rfl ?_)
                    refine q_iconst rfl rfl ?_
                    refine q_icne rfl rfl (fun c999 => absurd c999 (by decide)) (fun c999 => ?_)
                    refine q_icc6 (z := 3) rfl rfl rfl rfl rfl ?_
                    refine q_icc7 (z := 3) rfl rfl rfl rfl rfl ?_
                    refine q_goto rfl ?_
                    refine q_iload rfl rfl rfl ?_
                    refine q_iconst rfl rfl ?_
                    refine q_icge rfl rfl (fun c1000 => absurd c1000 (by decide)) (fun c1000 => ?_)
                    refine q_iload_n rfl rfl rfl ?_
                    refine q_iload rfl rfl rfl ?_
                    refine q_ishr rfl rfl (q_tn (z := 3) rfl ?_)
                    refine q_iconst rfl rfl ?_
                    refine q_iand rfl rfl (q_tn (z := 1) rfl ?_)
                    refine q_ifne rfl rfl (fun c1001 => absurd c1001 (by decide)) (fun c1001 => ?_)
                    refine q_aload_n rfl rfl rfl ?_
                    refine q_getf rfl rfl (by decide) rfl rfl ?_
                    refine q_iconst rfl rfl ?_
                    refine q_iload rfl rfl rfl ?_
                    refine q_imul rfl rfl (q_tn (z := 12) rfl ?_)
                    refine q_iload rfl rfl rfl ?_
                    refine q_bipush rfl rfl ?_
                    refine q_idiv rfl rfl (by decide) (q_tn (z := 1) rfl ?_)
                    refine q_iadd rfl rfl (q_tn (z := 13) rfl ?_)
                    refine q_iald rfl rfl (by decide) rfl (by decide) (q_tn (z := 1) rfl ?_)
                    refine q_iload rfl rfl rfl ?_
                    refine q_bipush rfl rfl ?_
                    refine q_irem rfl rfl (by decide) (q_tn (z := 5) rfl ?_)
                    refine q_ishr rfl rfl (q_tn (z := 0) rfl ?_)
                    refine q_iconst rfl rfl ?_
                    refine q_iand rfl rfl (q_tn (z := 0) rfl ?_)
                    refine q_iconst rfl rfl ?_
                    refine q_icne rfl rfl (fun c1002 => absurd c1002 (by decide)) (fun c1002 => ?_)
                    refine q_icc6 (z := 4) rfl rfl rfl rfl rfl ?_
                    refine q_icc7 (z := 4) rfl rfl rfl rfl rfl ?_
                    refine q_goto rfl ?_
                    refine q_iload rfl rfl rfl ?_
                    refine q_iconst rfl rfl ?_
                    refine q_icge rfl rfl (fun c1003 => absurd c1003 (by decide)) (fun c1003 => ?_)
                    refine q_iload_n rfl rfl rfl ?_
                    refine q_iload rfl rfl rfl ?_
                    refine q_ishr rfl rfl (q_tn (z := 1) rfl ?_)
                    refine q_iconst rfl rfl ?_
                    refine q_iand rfl rfl (q_tn (z := 1) rfl ?_)
                    refine q_ifne rfl rfl (fun c1004 => absurd c1004 (by decide)) (fun c1004 => ?_)
                    refine q_aload_n rfl rfl rfl ?_
                    refine q_getf rfl rfl (by decide) rfl rfl ?_
                    refine q_iconst rfl rfl ?_
                    refine q_iload rfl rfl rfl ?_
                    refine q_imul rfl rfl (q_tn (z := 16) rfl ?_)
                    refine q_iload rfl rfl rfl ?_
                    refine q_bipush rfl rfl ?_
                    refine q_idiv rfl rfl (by decide) (q_tn (z := 1) rfl ?_)
                    refine q_iadd rfl rfl (q_tn (z := 17) rfl ?_)
                    refine q_iald rfl rfl (by decide) rfl (by decide) (q_tn (z := 1) rfl ?_)
                    refine q_iload rfl rfl rfl ?_
                    refine q_bipush rfl rfl ?_
                    refine q_irem rfl rfl (by decide) (q_tn (z := 5) rfl ?_)
                    refine q_ishr rfl rfl (q_tn (z := 0) rfl ?_)
                    refine q_iconst rfl rfl ?_
                    refine q_iand rfl rfl (q_tn (z := 0) rfl ?_)
                    refine q_iconst rfl rfl ?_
                    refine q_icne rfl rfl (fun c1005 => absurd c1005 (by decide)) (fun c1005 => ?_)
                    refine q_icc6 (z := 5) rfl rfl rfl rfl rfl ?_
                    refine q_icc7 (z := 5) rfl rfl rfl rfl rfl ?_
                    refine q_goto rfl ?_
                    refine q_iload rfl rfl rfl ?_
                    refine q_iconst rfl rfl ?_
                    refine q_icge rfl rfl (fun c1006 => ?_) (fun c1006 => absurd (by decide) c1006)
                    refine q_iload rfl rfl rfl ?_
                    refine q_iload rfl rfl rfl ?_
                    refine q_icle rfl rfl (fun c1007 => ?_) (fun c1007 => absurd (by decide) c1007)
                    refine q_iload rfl rfl rfl ?_
                    refine q_ist7 rfl rfl rfl rfl ?_
                    refine q_aload_n rfl rfl rfl ?_
                    refine q_getf rfl rfl (by decide) rfl rfl ?_
                    refine q_iload rfl rfl rfl ?_
                    refine q_iald rfl rfl (by decide) ((FM_74 hM).trans (FW_74 S hW)) (by decide) (q_tn (z := (-2)) rfl ?_)
                    refine q_bipush rfl rfl ?_
                    refine q_icne rfl rfl (fun c1008 => ?_) (fun c1008 => absurd (by decide) c1008)
                    refine q_iload rfl rfl rfl ?_
                    refine q_iload_n rfl rfl rfl ?_
                    refine q_iclt rfl rfl (fun c1009 => absurd c1009 (by decide)) (fun c1009 => ?_)
                    refine q_goto rfl ?_
                    refine q_icc4 (z := 16) rfl rfl rfl rfl rfl ?_
                    refine q_goto rfl ?_
                    refine q_iload rfl rfl rfl ?_
                    refine q_bipush rfl rfl ?_
                    refine q_icge rfl rfl (fun c1010 => absurd c1010 (by decide)) (fun c1010 => ?_)
                    refine q_iconst rfl rfl ?_
                    refine q_ist5 rfl rfl rfl rfl ?_
                    refine q_iconst rfl rfl ?_
                    refine q_ist6 rfl rfl rfl rfl ?_
                    refine q_iconst rfl rfl ?_
                    refine q_ist7 rfl rfl rfl rfl ?_
                    refine q_iload rfl rfl rfl ?_
                    refine q_iconst rfl rfl ?_
                    refine q_icge rfl rfl (fun c1011 => absurd c1011 (by decide)) (fun c1011 => ?_)
                    refine q_iload_n rfl rfl rfl ?_
                    refine q_iload rfl rfl rfl ?_
                    refine q_ishr rfl rfl (q_tn (z := 31) rfl ?_)
                    refine q_iconst rfl rfl ?_
                    refine q_iand rfl rfl (q_tn (z := 1) rfl ?_)
                    refine q_ifne rfl rfl (fun c1012 => absurd c1012 (by decide)) (fun c1012 => ?_)
                    refine q_aload_n rfl rfl rfl ?_
                    refine q_getf rfl rfl (by decide) rfl rfl ?_
                    refine q_iconst rfl rfl ?_
                    refine q_iload rfl rfl rfl ?_
                    refine q_imul rfl rfl (q_tn (z := 0) rfl ?_)
                    refine q_iload rfl rfl rfl ?_
                    refine q_bipush rfl rfl ?_
                    refine q_idiv rfl rfl (by decide) (q_tn (z := 1) rfl ?_)
                    refine q_iadd rfl rfl (q_tn (z := 1) rfl ?_)
                    refine q_iald rfl rfl (by decide) rfl (by decide) (q_tn (z := 1) rfl ?_)
                    refine q_iload rfl rfl rfl ?_
                    refine q_bipush rfl rfl ?_
                    refine q_irem rfl rfl (by decide) (q_tn (z := 6) rfl ?_)
                    refine q_ishr rfl rfl (q_tn (z := 0) rfl ?_)
                    refine q_iconst rfl rfl ?_
                    refine q_iand rfl rfl (q_tn (z := 0) rfl ?_)
                    refine q_iconst rfl rfl ?_
                    refine q_icne rfl rfl (fun c1013 => absurd c1013 (by decide)) (fun c1013 => ?_)
                    refine q_icc6 (z := 1) rfl rfl rfl rfl rfl ?_
                    refine q_icc7 (z := 1) rfl rfl rfl rfl rfl ?_
                    refine q_goto rfl ?_
                    refine q_iload rfl rfl rfl ?_
                    refine q_iconst rfl rfl ?_
                    refine q_icge rfl rfl (fun c1014 => absurd c1014 (by decide)) (fun c1014 => ?_)
                    refine q_iload_n rfl rfl rfl ?_
                    refine q_iload rfl rfl rfl ?_
                    refine q_ishr rfl rfl (q_tn (z := 15) rfl ?_)
                    refine q_iconst rfl rfl ?_
                    refine q_iand rfl rfl (q_tn (z := 1) rfl ?_)
                    refine q_ifne rfl rfl (fun c1015 => absurd c1015 (by decide)) (fun c1015 => ?_)
                    refine q_aload_n rfl rfl rfl ?_
                    refine q_getf rfl rfl (by decide) rfl rfl ?_
                    refine q_iconst rfl rfl ?_
                    refine q_iload rfl rfl rfl ?_
                    refine q_imul rfl rfl (q_tn (z := 4) rfl ?_)
                    refine q_iload rfl rfl rfl ?_
                    refine q_bipush rfl rfl ?_
                    refine q_idiv rfl rfl (by decide) (q_tn (z := 1) rfl ?_)
                    refine q_iadd rfl rfl (q_tn (z := 5) rfl ?_)
                    refine q_iald rfl rfl (by decide) rfl (by decide) (q_tn (z := 1) rfl ?_)
                    refine q_iload rfl rfl rfl ?_
                    refine q_bipush rfl rfl ?_
                    refine q_irem rfl rfl (by decide) (q_tn (z := 6) rfl ?_)
                    refine q_ishr rfl rfl (q_tn (z := 0) rfl ?_)
                    refine q_iconst rfl rfl ?_
                    refine q_iand rfl rfl (q_tn (z := 0) rfl ?_)
                    refine q_iconst rfl rfl ?_
                    refine q_icne rfl rfl (fun c1016 => absurd c1016 (by decide)) (fun c1016 => ?_)
                    refine q_icc6 (z := 2) rfl rfl rfl rfl rfl ?_
                    refine q_icc7 (z := 2) rfl rfl rfl rfl rfl ?_
                    refine q_goto rfl ?_
                    refine q_iload rfl rfl rfl ?_
                    refine q_iconst rfl rfl ?_
                    refine q_icge rfl rfl (fun c1017 => absurd c1017 (by decide)) (fun c1017 => ?_)
                    refine q_iload_n rfl rfl rfl ?_
                    refine q_iload rfl rfl rfl ?_
                    refine q_ishr rfl rfl (q_tn (z := 7) rfl ?_)
                    refine q_iconst rfl rfl ?_
                    refine q_iand rfl rfl (q_tn (z := 1) rfl ?_)
                    refine q_ifne rfl rfl (fun c1018 => absurd c1018 (by decide)) (fun c1018 => ?_)
                    refine q_aload_n rfl rfl rfl ?_
                    refine q_getf rfl rfl (by decide) rfl rfl ?_
                    refine q_iconst rfl rfl ?_
                    refine q_iload rfl rfl rfl ?_
                    refine q_imul rfl rfl (q_tn (z := 8) rfl ?_)
                    refine q_iload rfl rfl rfl ?_
                    refine q_bipush rfl rfl ?_
                    refine q_idiv rfl rfl (by decide) (q_tn (z := 1) rfl ?_)
                    refine q_iadd rfl rfl (q_tn (z := 9) rfl ?_)
                    refine q_iald rfl rfl (by decide) rfl (by decide) (q_tn (z := 1) rfl ?_)
                    refine q_iload rfl rfl rfl ?_
                    refine q_bipush rfl rfl ?_
                    refine q_irem rfl rfl (by decide) (q_tn (z := 6) rfl ?_)
                    refine q_ishr rfl rfl (q_tn (z := 0) rfl ?_)
                    refine q_iconst rfl rfl ?_
                    refine q_iand rfl rfl (q_tn (z := 0) rfl ?_)
                    refine q_iconst rfl rfl ?_
                    refine q_icne rfl rfl (fun c1019 => absurd c1019 (by decide)) (fun c1019 => ?_)
                    refine q_icc6 (z := 3) rfl rfl rfl rfl rfl ?_
                    refine q_icc7 (z := 3) rfl rfl rfl rfl rfl ?_
                    refine q_goto rfl ?_
                    refine q_iload rfl rfl rfl ?_
                    refine q_iconst rfl rfl ?_
                    refine q_icge rfl rfl (fun c1020 => absurd c1020 (by decide)) (fun c1020 => ?_)
                    refine q_iload_n rfl rfl rfl ?_
                    refine q_iload rfl rfl rfl ?_
                    refine q_ishr rfl rfl (q_tn (z := 3) rfl ?_)
                    refine q_iconst rfl rfl ?_
                    refine q_iand rfl rfl (q_tn (z := 1) rfl ?_)
                    refine q_ifne rfl rfl (fun c1021 => absurd c1021 (by decide)) (fun c1021 => ?_)
                    refine q_aload_n rfl rfl rfl ?_
                    refine q_getf rfl rfl (by decide) rfl rfl ?_
                    refine q_iconst rfl rfl ?_
                    refine q_iload rfl rfl rfl ?_
                    refine q_imul rfl rfl (q_tn (z := 12) rfl ?_)
                    refine q_iload rfl rfl rfl ?_
                    refine q_bipush rfl rfl ?_
                    refine q_idiv rfl rfl (by decide) (q_tn (z := 1) rfl ?_)
                    refine q_iadd rfl rfl (q_tn (z := 13) rfl ?_)
                    refine q_iald rfl rfl (by decide) rfl (by decide) (q_tn (z := 1) rfl ?_)
                    refine q_iload rfl rfl rfl ?_
                    refine q_bipush rfl rfl ?_
                    refine q_irem rfl rfl (by decide) (q_tn (z := 6) rfl ?_)
                    refine q_ishr rfl rfl (q_tn (z := 0) rfl ?_)
                    refine q_iconst rfl rfl ?_
                    refine q_iand rfl rfl (q_tn (z := 0) rfl ?_)
                    refine q_iconst rfl rfl ?_
                    refine q_icne rfl rfl (fun c1022 => absurd c1022 (by decide)) (fun c1022 => ?_)
                    refine q_icc6 (z := 4) rfl rfl rfl rfl rfl ?_
                    refine q_icc7 (z := 4) rfl rfl rfl rfl rfl ?_
                    refine q_goto rfl ?_
                    refine q_iload rfl rfl rfl ?_
                    refine q_iconst rfl rfl ?_
                    refine q_icge rfl rfl (fun c1023 => absurd c1023 (by decide)) (fun c1023 => ?_)
                    refine q_iload_n rfl rfl rfl ?_
                    refine q_iload rfl rfl rfl ?_
                    refine q_ishr rfl rfl (q_tn (z := 1) rfl ?_)
                    refine q_iconst rfl rfl ?_
                    refine q_iand rfl rfl (q_tn (z := 1) rfl ?_)
                    refine q_ifne rfl rfl (fun c1024 => absurd c1024 (by decide)) (fun c1024 => ?_)
                    refine q_aload_n rfl rfl rfl ?_
                    refine q_getf rfl rfl (by decide) rfl rfl ?_
                    refine q_iconst rfl rfl ?_
                    refine q_iload rfl rfl rfl ?_
                    refine q_imul rfl rfl (q_tn (z := 16) rfl ?_)
                    refine q_iload rfl rfl rfl ?_
                    refine q_bipush rfl rfl ?_
                    refine q_idiv rfl rfl (by decide) (q_tn (z := 1) rfl ?_)
                    refine q_iadd rfl rfl (q_tn (z := 17) rfl ?_)
                    refine q_iald rfl rfl (by decide) rfl (by decide) (q_tn (z := 1) rfl ?_)
                    refine q_iload rfl rfl rfl ?_
                    refine q_bipush rfl rfl ?_
                    refine q_irem rfl rfl (by decide) (q_tn (z := 6) rfl ?_)
                    refine q_ishr rfl rfl (q_tn (z := 0) rfl ?_)
                    refine q_iconst rfl rfl ?_
                    refine q_iand rfl rfl (q_tn (z := 0) rfl ?_)
                    refine q_iconst rfl rfl ?_
                    refine q_icne rfl rfl (fun c1025 => absurd c1025 (by decide)) (fun c1025 => ?_)
                    refine q_icc6 (z := 5) rfl rfl rfl rfl rfl ?_
                    refine q_icc7 (z := 5) rfl rfl rfl rfl rfl ?_
                    refine q_goto rfl ?_
                    refine q_iload rfl rfl rfl ?_
                    refine q_iconst rfl rfl ?_
                    refine q_icge rfl rfl (fun c1026 => ?_) (fun c1026 => absurd (by decide) c1026)
                    refine q_iload rfl rfl rfl ?_
                    refine q_iload rfl rfl rfl ?_
                    refine q_icle rfl rfl (fun c1027 => ?_) (fun c1027 => absurd (by decide) c1027)
                    refine q_iload rfl rfl rfl ?_
                    refine q_ist7 rfl rfl rfl rfl ?_
                    refine q_aload_n rfl rfl rfl ?_
                    refine q_getf rfl rfl (by decide) rfl rfl ?_
                    refine q_iload rfl rfl rfl ?_
                    refine q_iald rfl rfl (by decide) ((FM_74 hM).trans (FW_74 S hW)) (by decide) (q_tn (z := (-2)) rfl ?_)
                    refine q_bipush rfl rfl ?_
                    refine q_icne rfl rfl (fun c1028 => ?_) (fun c1028 => absurd (by decide) c1028)
                    refine q_iload rfl rfl rfl ?_
                    refine q_iload_n rfl rfl rfl ?_
                    refine q_iclt rfl rfl (fun c1029 => absurd c1029 (by decide)) (fun c1029 => ?_)
                    refine q_goto rfl ?_
                    refine q_icc4 (z := 17) rfl rfl rfl rfl rfl ?_
                    refine q_goto rfl ?_
                    refine q_iload rfl rfl rfl ?_
                    refine q_bipush rfl rfl ?_
                    refine q_icge rfl rfl (fun c1030 => absurd c1030 (by decide)) (fun c1030 => ?_)
                    refine q_iconst rfl rfl ?_
                    refine q_ist5 rfl rfl rfl rfl ?_
                    refine q_iconst rfl rfl ?_
                    refine q_ist6 rfl rfl rfl rfl ?_
                    refine q_iconst rfl rfl ?_
                    refine q_ist7 rfl rfl rfl rfl ?_
                    refine q_iload rfl rfl rfl ?_
                    refine q_iconst rfl rfl ?_
                    refine q_icge rfl rfl (fun c1031 => absurd c1031 (by decide)) (fun c1031 => ?_)
                    refine q_iload_n rfl rfl rfl ?_
                    refine q_iload rfl rfl rfl ?_
                    refine q_ishr rfl rfl (q_tn (z := 31) rfl ?_)
                    refine q_iconst rfl rfl ?_
                    refine q_iand rfl rfl (q_tn (z := 1) rfl ?_)
                    refine q_ifne rfl rfl (fun c1032 => absurd c1032 (by decide)) (fun c1032 => ?_)
                    refine q_aload_n rfl rfl rfl ?_
                    refine q_getf rfl rfl (by decide) rfl rfl ?_
                    refine q_iconst rfl rfl ?_
                    refine q_iload rfl rfl rfl ?_
                    refine q_imul rfl rfl (q_tn (z := 0) rfl ?_)
                    refine q_iload rfl rfl rfl ?_
                    refine q_bipush rfl rfl ?_
                    refine q_idiv rfl rfl (by decide) (q_tn (z := 1) rfl ?_)
                    refine q_iadd rfl rfl (q_tn (z := 1) rfl ?_)
                    refine q_iald rfl rfl (by decide) rfl (by decide) (q_tn (z := 1) rfl ?_)
                    refine q_iload rfl rfl rfl ?_
                    refine q_bipush rfl rfl ?_
                    refine q_irem rfl rfl (by decide) (q_tn (z := 7) rfl ?_)
                    refine q_ishr rfl rfl (q_tn (z := 0) rfl ?_)
                    refine q_iconst rfl rfl ?_
                    refine q_iand rfl rfl (q_tn (z := 0) rfl ?_)
                    refine q_iconst rfl rfl ?_
                    refine q_icne rfl rfl (fun c1033 => absurd c1033 (by decide)) (fun c1033 => ?_)
                    refine q_icc6 (z := 1) rfl rfl rfl rfl rfl ?_
                    refine q_icc7 (z := 1) rfl rfl rfl rfl rfl ?_
                    refine q_goto rfl ?_
                    refine q_iload rfl rfl rfl ?_
                    refine q_iconst rfl rfl ?_
                    refine q_icge rfl rfl (fun c1034 => absurd c1034 (by decide)) (fun c1034 => ?_)
                    refine q_iload_n rfl rfl rfl ?_
                    refine q_iload rfl rfl rfl ?_
                    refine q_ishr rfl rfl (q_tn (z := 15) rfl ?_)
                    refine q_iconst rfl rfl ?_
                    refine q_iand rfl rfl (q_tn (z := 1) rfl ?_)
                    refine q_ifne rfl rfl (fun c1035 => absurd c1035 (by decide)) (fun c1035 => ?_)
                    refine q_aload_n rfl rfl rfl ?_
                    refine q_getf rfl rfl (by decide) rfl rfl ?_
                    refine q_iconst rfl rfl ?_
                    refine q_iload rfl rfl rfl ?_
                    refine q_imul rfl rfl (q_tn (z := 4) rfl ?_)
                    refine q_iload rfl rfl rfl ?_
                    refine q_bipush rfl rfl ?_
                    refine q_idiv rfl rfl (by decide) (q_tn (z := 1) rfl ?_)
                    refine q_iadd rfl rfl (q_tn (z := 5) rfl ?_)
                    refine q_iald rfl rfl (by decide) rfl (by decide) (q_tn (z := 1) rfl ?_)
                    refine q_iload rfl rfl rfl ?_
                    refine q_bipush rfl rfl ?_
                    refine q_irem rfl rfl (by decide) (q_tn (z := 7) rfl ?_)
                    refine q_ishr rfl rfl (q_tn (z := 0) rfl ?_)
                    refine q_iconst rfl rfl ?_
                    refine q_iand rfl rfl (q_tn (z := 0) rfl ?_)
                    refine q_iconst rfl rfl ?_
                    refine q_icne rfl rfl (fun c1036 => absurd c1036 (by decide)) (fun c1036 => ?_)
                    refine q_icc6 (z := 2) rfl rfl rfl rfl rfl ?_
                    refine q_icc7 (z := 2) rfl rfl rfl rfl rfl ?_
                    refine q_goto rfl ?_
                    refine q_iload rfl rfl rfl ?_
                    refine q_iconst rfl rfl ?_
                    refine q_icge rfl rfl (fun c1037 => absurd c1037 (by decide)) (fun c1037 => ?_)
                    refine q_iload_n rfl rfl rfl ?_
                    refine q_iload rfl rfl rfl ?_
                    refine q_ishr rfl rfl (q_tn (z := 7) rfl ?_)
                    refine q_iconst rfl rfl ?_
                    refine q_iand rfl rfl (q_tn (z := 1) rfl ?_)
                    refine q_ifne rfl rfl (fun c1038 => absurd c1038 (by decide)) (fun c1038 => ?_)
                    refine q_aload_n rfl rfl rfl ?_
                    refine q_getf rfl rfl (by decide) rfl rfl ?_
                    refine q_iconst rfl rfl ?_
                    refine q_iload rfl rfl rfl ?_
                    refine q_imul rfl rfl (q_tn (z := 8) rfl ?_)
                    refine q_iload rfl rfl rfl ?_
                    refine q_bipush rfl rfl ?_
                    refine q_idiv rfl rfl (by decide) (q_tn (z := 1) rfl ?_)
                    refine q_iadd rfl rfl (q_tn (z := 9) rfl ?_)
                    refine q_iald rfl rfl (by decide) rfl (by decide) (q_tn (z := 1) rfl ?_)
                    refine q_iload rfl rfl rfl ?_
                    refine q_bipush rfl rfl ?_
                    refine q_irem rfl rfl (by decide) (q_tn (z := 7) rfl ?_)
                    refine q_ishr rfl rfl (q_tn (z := 0) rfl ?_)
                    refine q_iconst rfl rfl ?_
                    refine q_iand rfl rfl (q_tn (z := 0) rfl ?_)
                    refine q_iconst rfl rfl ?_
                    refine q_icne rfl rfl (fun c1039 => absurd c1039 (by decide)) (fun c1039 => ?_)
                    refine q_icc6 (z := 3) rfl rfl rfl rfl rfl ?_
                    refine q_icc7 (z := 3) rfl rfl rfl rfl rfl ?_
                    refine q_goto rfl ?_
                    refine q_iload rfl rfl rfl ?_
                    refine q_iconst rfl rfl ?_
                    refine q_icge rfl rfl (fun c1040 => absurd c1040 (by decide)) (fun c1040 => ?_)
                    refine q_iload_n rfl rfl rfl ?_
                    refine q_iload rfl rfl rfl ?_
                    refine q_ishr rfl rfl (q_tn (z := 3) rfl ?_)
                    refine q_iconst rfl rfl ?_
                    refine q_iand rfl rfl (q_tn (z := 1) rfl ?_)
                    refine q_ifne rfl rfl (fun c1041 => absurd c1041 (by decide)) (fun c1041 => ?_)
                    refine q_aload_n rfl rfl rfl ?_
                    refine q_getf rfl rfl (by decide) rfl rfl ?_
                    refine q_iconst rfl rfl ?_
                    refine q_iload rfl rfl rfl ?_
                    refine q_imul rfl rfl (q_tn (z := 12) rfl ?_)
                    refine q_iload rfl rfl rfl ?_
                    refine q_bipush rfl rfl ?_
                    refine q_idiv rfl rfl (by decide) (q_tn (z := 1) rfl ?_)
                    refine q_iadd rfl rfl (q_tn (z := 13) rfl ?_)
                    refine q_iald rfl rfl (by decide) rfl (by decide) (q_tn (z := 1) rfl ?_)
                    refine q_iload rfl rfl rfl ?_
                    refine q_bipush rfl rfl ?_
                    refine q_irem rfl rfl (by decide) (q_tn (z := 7) rfl ?_)
                    refine q_ishr rfl rfl (q_tn (z := 0) rfl ?_)
                    refine q_iconst rfl rfl ?_
                    refine q_iand rfl rfl (q_tn (z := 0) rfl ?_)
                    refine q_iconst rfl rfl ?_
                    refine q_icne rfl rfl (fun c1042 => absurd c1042 (by decide)) (fun c1042 => ?_)
                    refine q_icc6 (z := 4) rfl rfl rfl rfl rfl ?_
                    refine q_icc7 (z := 4) rfl rfl rfl rfl rfl ?_
                    refine q_goto rfl ?_
                    refine q_iload rfl rfl rfl ?_
                    refine q_iconst rfl rfl ?_
                    refine q_icge rfl rfl (fun c1043 => absurd c1043 (by decide)) (fun c1043 => ?_)
                    refine q_iload_n rfl rfl rfl ?_
                    refine q_iload rfl rfl rfl ?_
                    refine q_ishr rfl rfl (q_tn (z := 1) rfl ?_)
                    refine q_iconst rfl rfl ?_
                    refine q_iand rfl rfl (q_tn (z := 1) rfl ?_)
                    refine q_ifne rfl rfl (fun c1044 => absurd c1044 (by decide)) (fun c1044 => ?_)
                    refine q_aload_n rfl rfl rfl ?_
                    refine q_getf rfl rfl (by decide) rfl rfl ?_
                    refine q_iconst rfl rfl ?_
                    refine q_iload rfl rfl rfl ?_
                    refine q_imul rfl rfl (q_tn (z := 16) rfl ?_)
                    refine q_iload rfl rfl rfl ?_
                    refine q_bipush rfl rfl ?_
                    refine q_idiv rfl rfl (by decide) (q_tn (z := 1) rfl ?_)
                    refine q_iadd rfl rfl (q_tn (z := 17) rfl ?_)
                    refine q_iald rfl rfl (by decide) rfl (by decide) (q_tn (z := 1) rfl ?_)
                    refine q_iload rfl rfl rfl ?_
                    refine q_bipush rfl rfl ?_
                    refine q_irem rfl rfl (by decide) (q_tn (z := 7) rfl ?_)
                    as_aux_lemma =>
                      refine q_ishr rfl rfl (q_tn (z := 0) rfl ?_)
                      refine q_iconst rfl rfl ?_
                      refine q_iand rfl rfl (q_tn (z := 0) rfl ?_)
                      refine q_iconst rfl rfl ?_
                      refine q_icne rfl rfl (fun c1045 => absurd c1045 (by decide)) (fun c1045 => ?_)
                      refine q_icc6 (z := 5) rfl rfl rfl rfl rfl ?_
                      refine q_icc7 (z := 5) rfl rfl rfl rfl rfl ?_
                      refine q_goto rfl ?_
                      refine q_iload rfl rfl rfl ?_
                      refine q_iconst rfl rfl ?_
                      refine q_icge rfl rfl (fun c1046 => ?_) (fun c1046 => absurd (by decide) c1046)
                      refine q_iload rfl rfl rfl ?_
                      refine q_iload rfl rfl rfl ?_
                      refine q_icle rfl rfl (fun c1047 => ?_) (fun c1047 => absurd (by decide) c1047)
                      refine q_iload rfl rfl rfl ?_
                      refine q_ist7 rfl rfl rfl rfl ?_
                      refine q_aload_n rfl rfl rfl ?_
                      refine q_getf rfl rfl (by decide) rfl rfl ?_
                      refine q_iload rfl rfl rfl ?_
                      refine q_iald rfl rfl (by decide) ((FM_74 hM).trans (FW_74 S hW)) (by decide) (q_tn (z := (-2)) rfl ?_)
                      refine q_bipush rfl rfl ?_
                      refine q_icne rfl rfl (fun c1048 => ?_) (fun c1048 => absurd (by decide) c1048)
                      refine q_iload rfl rfl rfl ?_
                      refine q_iload_n rfl rfl rfl ?_
                      refine q_iclt rfl rfl (fun c1049 => absurd c1049 (by decide)) (fun c1049 => ?_)
                      refine q_goto rfl ?_
                      refine q_icc4 (z := 18) rfl rfl rfl rfl rfl ?_
                      refine q_goto rfl ?_
                      refine q_iload rfl rfl rfl ?_
                      refine q_bipush rfl rfl ?_
                      refine q_icge rfl rfl (fun c1050 => absurd c1050 (by decide)) (fun c1050 => ?_)
                      refine q_iconst rfl rfl ?_
                      refine q_ist5 rfl rfl rfl rfl ?_
                      refine q_iconst rfl rfl ?_
                      refine q_ist6 rfl rfl rfl rfl ?_
                      refine q_iconst rfl rfl ?_
                      refine q_ist7 rfl rfl rfl rfl ?_
                      refine q_iload rfl rfl rfl ?_
                      refine q_iconst rfl rfl ?_
                      refine q_icge rfl rfl (fun c1051 => absurd c1051 (by decide)) (fun c1051 => ?_)
                      refine q_iload_n rfl rfl rfl ?_
                      refine q_iload rfl rfl rfl ?_
                      refine q_ishr rfl rfl (q_tn (z := 31) rfl ?_)
                      refine q_iconst rfl rfl ?_
                      refine q_iand rfl rfl (q_tn (z := 1) rfl ?_)
                      refine q_ifne rfl rfl (fun c1052 => absurd c1052 (by decide)) (fun c1052 => ?_)
                      refine q_aload_n rfl rfl rfl ?_
                      refine q_getf rfl rfl (by decide) rfl rfl ?_
                      refine q_iconst rfl rfl ?_
                      refine q_iload rfl rfl rfl ?_
                      refine q_imul rfl rfl (q_tn (z := 0) rfl ?_)
                      refine q_iload rfl rfl rfl ?_
                      refine q_bipush rfl rfl ?_
                      refine q_idiv rfl rfl (by decide) (q_tn (z := 1) rfl ?_)
                      refine q_iadd rfl rfl (q_tn (z := 1) rfl ?_)
                      refine q_iald rfl rfl (by decide) rfl (by decide) (q_tn (z := 1) rfl ?_)
                      refine q_iload rfl rfl rfl ?_
                      refine q_bipush rfl rfl ?_
                      refine q_irem rfl rfl (by decide) (q_tn (z := 8) rfl ?_)
                      refine q_ishr rfl rfl (q_tn (z := 0) rfl ?_)
                      refine q_iconst rfl rfl ?_
                      refine q_iand rfl rfl (q_tn (z := 0) rfl ?_)
                      refine q_iconst rfl rfl ?_
                      refine q_icne rfl rfl (fun c1053 => absurd c1053 (by decide)) (fun c1053 => ?_)
                      refine q_icc6 (z := 1) rfl rfl rfl rfl rfl ?_
                      refine q_icc7 (z := 1) rfl rfl rfl rfl rfl ?_
                      refine q_goto rfl ?_
                      refine q_iload rfl rfl rfl ?_
                      refine q_iconst rfl rfl ?_
                      refine q_icge rfl rfl (fun c1054 => absurd c1054 (by decide)) (fun c1054 => ?_)
                      refine q_iload_n rfl rfl rfl ?_
                      refine q_iload rfl rfl rfl ?_
                      refine q_ishr rfl rfl (q_tn (z := 15) rfl ?_)
                      refine q_iconst rfl rfl ?_
                      refine q_iand rfl rfl (q_tn (z := 1) rfl ?_)
                      refine q_ifne rfl rfl (fun c1055 => absurd c1055 (by decide)) (fun c1055 => ?_)
                      refine q_aload_n rfl rfl rfl ?_
                      refine q_getf rfl rfl (by decide) rfl rfl ?_
                      refine q_iconst rfl rfl ?_
                      refine q_iload rfl rfl rfl ?_
                      refine q_imul rfl rfl (q_tn (z := 4) rfl ?_)
                      refine q_iload rfl rfl rfl ?_
                      refine q_bipush rfl rfl ?_
                      refine q_idiv rfl rfl (by decide) (q_tn (z := 1) rfl ?_)
                      refine q_iadd rfl rfl (q_tn (z := 5) rfl ?_)
                      refine q_iald rfl rfl (by decide) rfl (by decide) (q_tn (z := 1) rfl ?_)
                      refine q_iload rfl rfl rfl ?_
                      refine q_bipush rfl rfl ?_
                      refine q_irem rfl rfl (by decide) (q_tn (z := 8) rfl ?_)
                      refine q_ishr rfl rfl (q_tn (z := 0) rfl ?_)
                      refine q_iconst rfl rfl ?_
                      refine q_iand rfl rfl (q_tn (z := 0) rfl ?_)
                      refine q_iconst rfl rfl ?_
                      refine q_icne rfl rfl (fun c1056 => absurd c1056 (by decide)) (fun c1056 => ?_)
                      refine q_icc6 (z := 2) rfl rfl rfl rfl rfl ?_
                      refine q_icc7 (z := 2) rfl rfl rfl rfl rfl ?_
                      refine q_goto rfl ?_
                      refine q_iload rfl rfl rfl ?_
                      refine q_iconst rfl rfl ?_
                      refine q_icge rfl rfl (fun c1057 => absurd c1057 (by decide)) (fun c1057 => ?_)
                      refine q_iload_n rfl rfl rfl ?_
                      refine q_iload rfl rfl rfl ?_
                      refine q_ishr rfl rfl (q_tn (z := 7) rfl ?_)
                      refine q_iconst rfl rfl ?_
                      refine q_iand rfl rfl (q_tn (z := 1) rfl ?_)
                      refine q_ifne rfl rfl (fun c1058 => absurd c1058 (by decide)) (fun c1058 => ?_)
                      refine q_aload_n rfl rfl rfl ?_
                      refine q_getf rfl rfl (by decide) rfl rfl ?_
                      refine q_iconst rfl rfl ?_
                      refine q_iload rfl rfl rfl ?_
                      refine q_imul rfl rfl (q_tn (z := 8) rfl ?_)
                      refine q_iload rfl rfl rfl ?_
                      refine q_bipush rfl rfl ?_
                      refine q_idiv rfl rfl (by decide) (q_tn (z := 1) rfl ?_)
                      refine q_iadd rfl rfl (q_tn (z := 9) rfl ?_)
                      refine q_iald rfl rfl (by decide) rfl (by decide) (q_tn (z := 1) rfl ?_)
                      refine q_iload rfl rfl rfl ?_
                      refine q_bipush rfl rfl ?_
                      refine q_irem rfl rfl (by decide) (q_tn (z := 8) rfl ?_)
                      refine q_ishr rfl rfl (q_tn (z := 0) rfl ?_)
                      refine q_iconst rfl rfl ?_
                      refine q_iand rfl rfl (q_tn (z := 0) rfl ?_)
                      refine q_iconst rfl rfl ?_
                      refine q_icne rfl rfl (fun c1059 => absurd c1059 (by decide)) (fun c1059 => ?_)
                      refine q_icc6 (z := 3) rfl rfl rfl rfl rfl ?_
                      refine q_icc7 (z := 3) rfl rfl rfl rfl rfl ?_
                      refine q_goto rfl ?_
                      refine q_iload rfl rfl rfl ?_
                      refine q_iconst rfl rfl ?_
                      refine q_icge rfl rfl (fun c1060 => absurd c1060 (by decide)) (fun c1060 => ?_)
                      refine q_iload_n rfl rfl rfl ?_
                      refine q_iload rfl rfl rfl ?_
                      refine q_ishr rfl rfl (q_tn (z := 3) rfl ?_)
                      refine q_iconst rfl rfl ?_
                      refine q_iand rfl rfl (q_tn (z := 1) rfl ?_)
                      refine q_ifne rfl rfl (fun c1061 => absurd c1061 (by decide)) (fun c1061 => ?_)
                      refine q_aload_n rfl rfl rfl ?_
                      refine q_getf rfl rfl (by decide) rfl rfl ?_
                      refine q_iconst rfl rfl ?_
                      refine q_iload rfl rfl rfl ?_
                      refine q_imul rfl rfl (q_tn (z := 12) rfl ?_)
                      refine q_iload rfl rfl rfl ?_
                      refine q_bipush rfl rfl ?_
                      refine q_idiv rfl rfl (by decide) (q_tn (z := 1) rfl ?_)
                      refine q_iadd rfl rfl (q_tn (z := 13) rfl ?_)
                      refine q_iald rfl rfl (by decide) rfl (by decide) (q_tn (z := 1) rfl ?_)
                      refine q_iload rfl rfl rfl ?_
                      refine q_bipush rfl rfl ?_
                      refine q_irem rfl rfl (by decide) (q_tn (z := 8) rfl ?_)
                      refine q_ishr rfl rfl (q_tn (z := 0) rfl ?_)
                      refine q_iconst rfl rfl ?_
                      refine q_iand rfl rfl (q_tn (z := 0) rfl ?_)
                      refine q_iconst rfl rfl ?_
                      refine q_icne rfl rfl (fun c1062 => absurd c1062 (by decide)) (fun c1062 => ?_)
                      refine q_icc6 (z := 4) rfl rfl rfl rfl rfl ?_
                      refine q_icc7 (z := 4) rfl rfl rfl rfl rfl ?_
                      refine q_goto rfl ?_
                      refine q_iload rfl rfl rfl ?_
                      refine q_iconst rfl rfl ?_
                      refine q_icge rfl rfl (fun c1063 => absurd c1063 (by decide)) (fun c1063 => ?_)
                      refine q_iload_n rfl rfl rfl ?_
                      refine q_iload rfl rfl rfl ?_
                      refine q_ishr rfl rfl (q_tn (z := 1) rfl ?_)
                      refine q_iconst rfl rfl ?_
                      refine q_iand rfl rfl (q_tn (z := 1) rfl ?_)
                      refine q_ifne rfl rfl (fun c1064 => absurd c1064 (by decide)) (fun c1064 => ?_)
                      refine q_aload_n rfl rfl rfl ?_
                      refine q_getf rfl rfl (by decide) rfl rfl ?_
                      refine q_iconst rfl rfl ?_
                      refine q_iload rfl rfl rfl ?_
                      refine q_imul rfl rfl (q_tn (z := 16) rfl ?_)
                      refine q_iload rfl rfl rfl ?_
                      refine q_bipush rfl rfl ?_
                      refine q_idiv rfl rfl (by decide) (q_tn (z := 1) rfl ?_)
                      refine q_iadd rfl rfl (q_tn (z := 17) rfl ?_)
                      refine q_iald rfl rfl (by decide) rfl (by decide) (q_tn (z := 1) rfl ?_)
                      refine q_iload rfl rfl rfl ?_
                      refine q_bipush rfl rfl ?_
                      refine q_irem rfl rfl (by decide) (q_tn (z := 8) rfl ?_)
                      refine q_ishr rfl rfl (q_tn (z := 0) rfl ?_)
                      refine q_iconst rfl rfl ?_
                      refine q_iand rfl rfl (q_tn (z := 0) rfl ?_)
                      refine q_iconst rfl rfl ?_
                      refine q_icne rfl rfl (fun c1065 => absurd c1065 (by decide)) (fun c1065 => ?_)
                      refine q_icc6 (z := 5) rfl rfl rfl rfl rfl ?_
                      refine q_icc7 (z := 5) rfl rfl rfl rfl rfl ?_
                      refine q_goto rfl ?_
                      refine q_iload rfl rfl rfl ?_
                      refine q_iconst rfl rfl ?_
                      refine q_icge rfl rfl (fun c1066 => ?_) (fun c1066 => absurd (by decide) c1066)
                      refine q_iload rfl rfl rfl ?_
                      refine q_iload rfl rfl rfl ?_
                      refine q_icle rfl rfl (fun c1067 => ?_) (fun c1067 => absurd (by decide) c1067)
                      refine q_iload rfl rfl rfl ?_
                      refine q_ist7 rfl rfl rfl rfl ?_
                      refine q_aload_n rfl rfl rfl ?_
                      refine q_getf rfl rfl (by decide) rfl rfl ?_
                      refine q_iload rfl rfl rfl ?_
                      refine q_iald rfl rfl (by decide) ((FM_74 hM).trans (FW_74 S hW)) (by decide) (q_tn (z := (-2)) rfl ?_)
                      refine q_bipush rfl rfl ?_
                      refine q_icne rfl rfl (fun c1068 => ?_) (fun c1068 => absurd (by decide) c1068)
                      refine q_iload rfl rfl rfl ?_
                      refine q_iload_n rfl rfl rfl ?_
                      refine q_iclt rfl rfl (fun c1069 => absurd c1069 (by decide)) (fun c1069 => ?_)
                      refine q_goto rfl ?_
                      refine q_icc4 (z := 19) rfl rfl rfl rfl rfl ?_
                      refine q_goto rfl ?_
                      refine q_iload rfl rfl rfl ?_
                      refine q_bipush rfl rfl ?_
                      refine q_icge rfl rfl (fun c1070 => absurd c1070 (by decide)) (fun c1070 => ?_)
                      refine q_iconst rfl rfl ?_
                      refine q_ist5 rfl rfl rfl rfl ?_
                      refine q_iconst rfl rfl ?_
                      refine q_ist6 rfl rfl rfl rfl ?_
                      refine q_iconst rfl rfl ?_
                      refine q_ist7 rfl rfl rfl rfl ?_
                      refine q_iload rfl rfl rfl ?_
                      refine q_iconst rfl rfl ?_
                      refine q_icge rfl rfl (fun c1071 => absurd c1071 (by decide)) (fun c1071 => ?_)
                      refine q_iload_n rfl rfl rfl ?_
                      refine q_iload rfl rfl rfl ?_
                      refine q_ishr rfl rfl (q_tn (z := 31) rfl ?_)
                      refine q_iconst rfl rfl ?_
                      refine q_iand rfl rfl (q_tn (z := 1) rfl ?_)
                      refine q_ifne rfl rfl (fun c1072 => absurd c1072 (by decide)) (fun c1072 => ?_)
                      refine q_aload_n rfl rfl rfl ?_
                      refine q_getf rfl rfl (by decide) rfl rfl ?_
                      refine q_iconst rfl rfl ?_
                      refine q_iload rfl rfl rfl ?_
                      refine q_imul rfl rfl (q_tn (z := 0) rfl ?_)
                      refine q_iload rfl rfl rfl ?_
                      refine q_bipush rfl rfl ?_
                      refine q_idiv rfl rfl (by decide) (q_tn (z := 1) rfl ?_)
                      refine q_iadd rfl rfl (q_tn (z := 1) rfl ?_)
                      refine q_iald rfl rfl (by decide) rfl (by decide) (q_tn (z := 1) rfl ?_)
                      refine q_iload rfl rfl rfl ?_
                      refine q_bipush rfl rfl ?_
                      refine q_irem rfl rfl (by decide) (q_tn (z := 9) rfl ?_)
                      refine q_ishr rfl rfl (q_tn (z := 0) rfl ?_)
                      refine q_iconst rfl rfl ?_
                      refine q_iand rfl rfl (q_tn (z := 0) rfl ?_)
                      refine q_iconst rfl rfl ?_
                      refine q_icne rfl rfl (fun c1073 => absurd c1073 (by decide)) (fun c1073 => ?_)
                      refine q_icc6 (z := 1) rfl rfl rfl rfl rfl ?_
                      refine q_icc7 (z := 1) rfl rfl rfl rfl rfl ?_
                      refine q_goto rfl ?_
                      refine q_iload rfl rfl rfl ?_
                      refine q_iconst rfl rfl ?_
                      refine q_icge rfl rfl (fun c1074 => absurd c1074 (by decide)) (fun c1074 => ?_)
                      refine q_iload_n rfl rfl rfl ?_
                      refine q_iload rfl rfl rfl ?_
                      refine q_ishr rfl rfl (q_tn (z := 15) rfl ?_)
                      refine q_iconst rfl rfl ?_
                      refine q_iand rfl rfl (q_tn (z := 1) rfl ?_)
                      refine q_ifne rfl rfl (fun c1075 => absurd c1075 (by decide)) (fun c1075 => ?_)
                      refine q_aload_n rfl rfl rfl ?_
                      refine q_getf rfl rfl (by decide) rfl rfl ?_
                      refine q_iconst rfl rfl ?_
                      refine q_iload rfl rfl rfl ?_
                      refine q_imul rfl rfl (q_tn (z := 4) rfl ?_)
                      refine q_iload rfl rfl rfl ?_
                      refine q_bipush rfl rfl ?_
                      refine q_idiv rfl rfl (by decide) (q_tn (z := 1) rfl ?_)
                      refine q_iadd rfl rfl (q_tn (z := 5) rfl ?_)
                      refine q_iald rfl rfl (by decide) rfl (by decide) (q_tn (z := 1) rfl ?_)
                      refine q_iload rfl rfl rfl ?_
                      refine q_bipush rfl rfl ?_
                      refine q_irem rfl rfl (by decide) (q_tn (z := 9) rfl ?_)
                      refine q_ishr rfl rfl (q_tn (z := 0) rfl ?_)
                      refine q_iconst rfl rfl ?_
                      refine q_iand rfl rfl (q_tn (z := 0) rfl ?_)
                      refine q_iconst rfl rfl ?_
                      refine q_icne rfl rfl (fun c1076 => absurd c1076 (by decide)) (fun c1076 => ?_)
                      refine q_icc6 (z := 2) rfl rfl rfl rfl rfl ?_
                      refine q_icc7 (z := 2) rfl rfl rfl rfl rfl ?_
                      refine q_goto rfl ?_
                      refine q_iload rfl rfl rfl ?_
                      refine q_iconst rfl rfl ?_
                      refine q_icge rfl rfl (fun c1077 => absurd c1077 (by decide)) (fun c1077 => ?_)
                      refine q_iload_n rfl rfl rfl ?_
                      refine q_iload rfl rfl rfl ?_
                      refine q_ishr rfl rfl (q_tn (z := 7) rfl ?_)
                      refine q_iconst rfl rfl ?_
                      refine q_iand rfl rfl (q_tn (z := 1) rfl ?_)
                      refine q_ifne rfl rfl (fun c1078 => absurd c1078 (by decide)) (fun c1078 => ?_)
                      refine q_aload_n rfl rfl rfl ?_
                      refine q_getf rfl rfl (by decide) rfl rfl ?_
                      refine q_iconst rfl rfl ?_
                      refine q_iload rfl rfl rfl ?_
                      refine q_imul rfl rfl (q_tn (z := 8) rfl ?_)
                      refine q_iload rfl rfl rfl ?_
                      refine q_bipush rfl rfl ?_
                      refine q_idiv rfl rfl (by decide) (q_tn (z := 1) rfl ?_)
                      refine q_iadd rfl rfl (q_tn (z := 9) rfl ?_)
                      refine q_iald rfl rfl (by decide) rfl (by decide) (q_tn (z := 1) rfl ?_)
                      refine q_iload rfl rfl rfl ?_
                      refine q_bipush rfl rfl ?_
                      refine q_irem rfl rfl (by decide) (q_tn (z := 9) rfl ?_)
                      refine q_ishr rfl rfl (q_tn (z := 0) rfl ?_)
                      refine q_iconst rfl rfl ?_
                      refine q_iand rfl rfl (q_tn (z := 0) rfl ?_)
                      refine q_iconst rfl rfl ?_
                      refine q_icne rfl rfl (fun c1079 => absurd c1079 (by decide)) (fun c1079 => ?_)
                      refine q_icc6 (z := 3) rfl rfl rfl rfl rfl ?_
                      refine q_icc7 (z := 3) rfl rfl rfl rfl rfl ?_
                      refine q_goto rfl ?_
                      refine q_iload rfl rfl rfl ?_
                      refine q_iconst rfl rfl ?_
                      refine q_icge rfl rfl (fun c1080 => absurd c1080 (by decide)) (fun c1080 => ?_)
                      refine q_iload_n rfl rfl rfl ?_
                      refine q_iload rfl rfl rfl ?_
                      refine q_ishr rfl rfl (q_tn (z := 3) rfl ?_)
                      refine q_iconst rfl rfl ?_
                      refine q_iand rfl rfl (q_tn (z := 1) rfl ?_)
                      refine q_ifne rfl rfl (fun c1081 => absurd c1081 (by decide)) (fun c1081 => ?_)
                      refine q_aload_n rfl rfl rfl ?_
                      refine q_getf rfl rfl (by decide) rfl rfl ?_
                      refine q_iconst rfl rfl ?_
                      refine q_iload rfl rfl rfl ?_
                      refine q_imul rfl rfl (q_tn (z := 12) rfl ?_)
                      refine q_iload rfl rfl rfl ?_
                      refine q_bipush rfl rfl ?_
                      refine q_idiv rfl rfl (by decide) (q_tn (z := 1) rfl ?_)
                      refine q_iadd rfl rfl (q_tn (z := 13) rfl ?_)
                      refine q_iald rfl rfl (by decide) rfl (by decide) (q_tn (z := 1) rfl ?_)
                      refine q_iload rfl rfl rfl ?_
                      refine q_bipush rfl rfl ?_
                      refine q_irem rfl rfl (by decide) (q_tn (z := 9) rfl ?_)
                      refine q_ishr rfl rfl (q_tn (z := 0) rfl ?_)
                      refine q_iconst rfl rfl ?_
                      refine q_iand rfl rfl (q_tn (z := 0) rfl ?_)
                      refine q_iconst rfl rfl ?_
                      refine q_icne rfl rfl (fun c1082 => absurd c1082 (by decide)) (fun c1082 => ?_)
                      refine q_icc6 (z := 4) rfl rfl rfl rfl rfl ?_
                      refine q_icc7 (z := 4) rfl rfl rfl rfl rfl ?_
                      refine q_goto rfl ?_
                      refine q_iload rfl rfl rfl ?_
                      refine q_iconst rfl rfl ?_
                      refine q_icge rfl rfl (fun c1083 => absurd c1083 (by decide)) (fun c1083 => ?_)
                      refine q_iload_n rfl rfl rfl ?_
                      refine q_iload rfl rfl rfl ?_
                      refine q_ishr rfl rfl (q_tn (z := 1) rfl ?_)
                      refine q_iconst rfl rfl ?_
                      refine q_iand rfl rfl (q_tn (z := 1) rfl ?_)
                      refine q_ifne rfl rfl (fun c1084 => absurd c1084 (by decide)) (fun c1084 => ?_)
                      refine q_aload_n rfl rfl rfl ?_
                      refine q_getf rfl rfl (by decide) rfl rfl ?_
                      refine q_iconst rfl rfl ?_
                      refine q_iload rfl rfl rfl ?_
                      refine q_imul rfl rfl (q_tn (z := 16) rfl ?_)
                      refine q_iload rfl rfl rfl ?_
                      refine q_bipush rfl rfl ?_
                      refine q_idiv rfl rfl (by decide) (q_tn (z := 1) rfl ?_)
                      refine q_iadd rfl rfl (q_tn (z := 17) rfl ?_)
                      refine q_iald rfl rfl (by decide) rfl (by decide) (q_tn (z := 1) rfl ?_)
                      refine q_iload rfl rfl rfl ?_
                      refine q_bipush rfl rfl ?_
                      refine q_irem rfl rfl (by decide) (q_tn (z := 9) rfl ?_)
                      refine q_ishr rfl rfl (q_tn (z := 0) rfl ?_)
                      refine q_iconst rfl rfl ?_
                      refine q_iand rfl rfl (q_tn (z := 0) rfl ?_)
                      refine q_iconst rfl rfl ?_
                      refine q_icne rfl rfl (fun c1085 => absurd c1085 (by decide)) (fun c1085 => ?_)
                      refine q_icc6 (z := 5) rfl rfl rfl rfl rfl ?_
                      refine q_icc7 (z := 5) rfl rfl rfl rfl rfl ?_
                      refine q_goto rfl ?_
                      refine q_iload rfl rfl rfl ?_
                      refine q_iconst rfl rfl ?_
                      refine q_icge rfl rfl (fun c1086 => ?_) (fun c1086 => absurd (by decide) c1086)
                      refine q_iload rfl rfl rfl ?_
                      refine q_iload rfl rfl rfl ?_
                      refine q_icle rfl rfl (fun c1087 => ?_) (fun c1087 => absurd (by decide) c1087)
                      refine q_iload rfl rfl rfl ?_
                      refine q_ist7 rfl rfl rfl rfl ?_
                      refine q_aload_n rfl rfl rfl ?_
                      refine q_getf rfl rfl (by decide) rfl rfl ?_
                      refine q_iload rfl rfl rfl ?_
                      refine q_iald rfl rfl (by decide) ((FM_74 hM).trans (FW_74 S hW)) (by decide) (q_tn (z := (-2)) rfl ?_)
                      refine q_bipush rfl rfl ?_
                      refine q_icne rfl rfl (fun c1088 => ?_) (fun c1088 => absurd (by decide) c1088)
                      refine q_iload rfl rfl rfl ?_
                      refine q_iload_n rfl rfl rfl ?_
                      refine q_iclt rfl rfl (fun c1089 => absurd c1089 (by decide)) (fun c1089 => ?_)
                      refine q_goto rfl ?_
                      refine q_icc4 (z := 20) rfl rfl rfl rfl rfl ?_
                      refine q_goto rfl ?_
                      refine q_iload rfl rfl rfl ?_
                      refine q_bipush rfl rfl ?_
                      refine q_icge rfl rfl (fun c1090 => absurd c1090 (by decide)) (fun c1090 => ?_)
                      refine q_iconst rfl rfl ?_
                      refine q_ist5 rfl rfl rfl rfl ?_
                      refine q_iconst rfl rfl ?_
                      refine q_ist6 rfl rfl rfl rfl ?_
                      refine q_iconst rfl rfl ?_
                      refine q_ist7 rfl rfl rfl rfl ?_
                      refine q_iload rfl rfl rfl ?_
                      refine q_iconst rfl rfl ?_
                      refine q_icge rfl rfl (fun c1091 => absurd c1091 (by decide)) (fun c1091 => ?_)
                      refine q_iload_n rfl rfl rfl ?_
                      refine q_iload rfl rfl rfl ?_
                      refine q_ishr rfl rfl (q_tn (z := 31) rfl ?_)
                      refine q_iconst rfl rfl ?_
                      refine q_iand rfl rfl (q_tn (z := 1) rfl ?_)
                      refine q_ifne rfl rfl (fun c1092 => absurd c1092 (by decide)) (fun c1092 => ?_)
                      refine q_aload_n rfl rfl rfl ?_
                      refine q_getf rfl rfl (by decide) rfl rfl ?_
                      refine q_iconst rfl rfl ?_
                      refine q_iload rfl rfl rfl ?_
                      refine q_imul rfl rfl (q_tn (z := 0) rfl ?_)
                      refine q_iload rfl rfl rfl ?_
                      refine q_bipush rfl rfl ?_
                      refine q_idiv rfl rfl (by decide) (q_tn (z := 2) rfl ?_)
                      refine q_iadd rfl rfl (q_tn (z := 2) rfl ?_)
                      refine q_iald rfl rfl (by decide) rfl (by decide) (q_tn (z := 1) rfl ?_)
                      refine q_iload rfl rfl rfl ?_
                      refine q_bipush rfl rfl ?_
                      refine q_irem rfl rfl (by decide) (q_tn (z := 0) rfl ?_)
                      refine q_ishr rfl rfl (q_tn (z := 1) rfl ?_)
                      refine q_iconst rfl rfl ?_
                      refine q_iand rfl rfl (q_tn (z := 1) rfl ?_)
                      refine q_iconst rfl rfl ?_
                      refine q_icne rfl rfl (fun c1093 => ?_) (fun c1093 => absurd (by decide) c1093)
                      refine q_icc5 (z := 1) rfl rfl rfl rfl rfl ?_
                      refine q_goto rfl ?_
                      refine q_icc7 (z := 1) rfl rfl rfl rfl rfl ?_
                      refine q_goto rfl ?_
                      refine q_iload rfl rfl rfl ?_
                      refine q_iconst rfl rfl ?_
                      refine q_icge rfl rfl (fun c1094 => absurd c1094 (by decide)) (fun c1094 => ?_)
                      refine q_iload_n rfl rfl rfl ?_
                      refine q_iload rfl rfl rfl ?_
                      refine q_ishr rfl rfl (q_tn (z := 15) rfl ?_)
                      refine q_iconst rfl rfl ?_
                      refine q_iand rfl rfl (q_tn (z := 1) rfl ?_)
                      refine q_ifne rfl rfl (fun c1095 => absurd c1095 (by decide)) (fun c1095 => ?_)
                      refine q_aload_n rfl rfl rfl ?_
                      refine q_getf rfl rfl (by decide) rfl rfl ?_
                      refine q_iconst rfl rfl ?_
                      refine q_iload rfl rfl rfl ?_
                      refine q_imul rfl rfl (q_tn (z := 4) rfl ?_)
                      refine q_iload rfl rfl rfl ?_
                      refine q_bipush rfl rfl ?_
                      refine q_idiv rfl rfl (by decide) (q_tn (z := 2) rfl ?_)
                      refine q_iadd rfl rfl (q_tn (z := 6) rfl ?_)
                      refine q_iald rfl rfl (by decide) rfl (by decide) (q_tn (z := 1) rfl ?_)
                      refine q_iload rfl rfl rfl ?_
                      refine q_bipush rfl rfl ?_
                      refine q_irem rfl rfl (by decide) (q_tn (z := 0) rfl ?_)
                      refine q_ishr rfl rfl (q_tn (z := 1) rfl ?_)
                      refine q_iconst rfl rfl ?_
                      refine q_iand rfl rfl (q_tn (z := 1) rfl ?_)
                      refine q_iconst rfl rfl ?_
                      refine q_icne rfl rfl (fun c1096 => ?_) (fun c1096 => absurd (by decide) c1096)
                      refine q_icc5 (z := 2) rfl rfl rfl rfl rfl ?_
                      refine q_goto rfl ?_
                      refine q_icc7 (z := 2) rfl rfl rfl rfl rfl ?_
                      refine q_goto rfl ?_
                      refine q_iload rfl rfl rfl ?_
                      refine q_iconst rfl rfl ?_
                      refine q_icge rfl rfl (fun c1097 => absurd c1097 (by decide)) (fun c1097 => ?_)
                      refine q_iload_n rfl rfl rfl ?_
                      refine q_iload rfl rfl rfl ?_
                      refine q_ishr rfl rfl (q_tn (z := 7) rfl ?_)
                      refine q_iconst rfl rfl ?_
                      refine q_iand rfl rfl (q_tn (z := 1) rfl ?_)
                      refine q_ifne rfl rfl (fun c1098 => absurd c1098 (by decide)) (fun c1098 => ?_)
                      refine q_aload_n rfl rfl rfl ?_
                      refine q_getf rfl rfl (by decide) rfl rfl ?_
                      refine q_iconst rfl rfl ?_
                      refine q_iload rfl rfl rfl ?_
                      refine q_imul rfl rfl (q_tn (z := 8) rfl ?_)
                      refine q_iload rfl rfl rfl ?_
                      refine q_bipush rfl rfl ?_
                      refine q_idiv rfl rfl (by decide) (q_tn (z := 2) rfl ?_)
                      refine q_iadd rfl rfl (q_tn (z := 10) rfl ?_)
                      refine q_iald rfl rfl (by decide) rfl (by decide) (q_tn (z := 1) rfl ?_)
                      refine q_iload rfl rfl rfl ?_
                      refine q_bipush rfl rfl ?_
                      refine q_irem rfl rfl (by decide) (q_tn (z := 0) rfl ?_)
                      refine q_ishr rfl rfl (q_tn (z := 1) rfl ?_)
                      refine q_iconst rfl rfl ?_
                      refine q_iand rfl rfl (q_tn (z := 1) rfl ?_)
                      refine q_iconst rfl rfl ?_
                      refine q_icne rfl rfl (fun c1099 => ?_) (fun c1099 => absurd (by decide) c1099)
                      refine q_icc5 (z := 3) rfl rfl rfl rfl rfl ?_
                      refine q_goto rfl ?_
                      refine q_icc7 (z := 3) rfl rfl rfl rfl rfl ?_
                      refine q_goto rfl ?_
                      refine q_iload rfl rfl rfl ?_
                      refine q_iconst rfl rfl ?_
                      refine q_icge rfl rfl (fun c1100 => absurd c1100 (by decide)) (fun c1100 => ?_)
                      refine q_iload_n rfl rfl rfl ?_
                      refine q_iload rfl rfl rfl ?_
                      refine q_ishr rfl rfl (q_tn (z := 3) rfl ?_)
                      refine q_iconst rfl rfl ?_
                      refine q_iand rfl rfl (q_tn (z := 1) rfl ?_)
                      refine q_ifne rfl rfl (fun c1101 => absurd c1101 (by decide)) (fun c1101 => ?_)
                      refine q_aload_n rfl rfl rfl ?_
                      refine q_getf rfl rfl (by decide) rfl rfl ?_
                      refine q_iconst rfl rfl ?_
                      refine q_iload rfl rfl rfl ?_
                      refine q_imul rfl rfl (q_tn (z := 12) rfl ?_)
                      refine q_iload rfl rfl rfl ?_
                      refine q_bipush rfl rfl ?_
                      refine q_idiv rfl rfl (by decide) (q_tn (z := 2) rfl ?_)
                      refine q_iadd rfl rfl (q_tn (z := 14) rfl ?_)
                      refine q_iald rfl rfl (by decide) rfl (by decide) (q_tn (z := 1) rfl ?_)
                      refine q_iload rfl rfl rfl ?_
                      refine q_bipush rfl rfl ?_
                      refine q_irem rfl rfl (by decide) (q_tn (z := 0) rfl ?_)
                      refine q_ishr rfl rfl (q_tn (z := 1) rfl ?_)
                      refine q_iconst rfl rfl ?_
                      refine q_iand rfl rfl (q_tn (z := 1) rfl ?_)
                      refine q_iconst rfl rfl ?_
                      refine q_icne rfl rfl (fun c1102 => ?_) (fun c1102 => absurd (by decide) c1102)
                      refine q_icc5 (z := 4) rfl rfl rfl rfl rfl ?_
                      refine q_goto rfl ?_
                      refine q_icc7 (z := 4) rfl rfl rfl rfl rfl ?_
                      refine q_goto rfl ?_
                      refine q_iload rfl rfl rfl ?_
                      refine q_iconst rfl rfl ?_
                      refine q_icge rfl rfl (fun c1103 => absurd c1103 (by decide)) (fun c1103 => ?_)
                      refine q_iload_n rfl rfl rfl ?_
                      refine q_iload rfl rfl rfl ?_
                      refine q_ishr rfl rfl (q_tn (z := 1) rfl ?_)
                      refine q_iconst rfl rfl ?_
                      refine q_iand rfl rfl (q_tn (z := 1) rfl ?_)
                      refine q_ifne rfl rfl (fun c1104 => absurd c1104 (by decide)) (fun c1104 => ?_)
                      refine q_aload_n rfl rfl rfl ?_
                      refine q_getf rfl rfl (by decide) rfl rfl ?_
                      refine q_iconst rfl rfl ?_
                      refine q_iload rfl rfl rfl ?_
                      refine q_imul rfl rfl (q_tn (z := 16) rfl ?_)
                      refine q_iload rfl rfl rfl ?_
                      refine q_bipush rfl rfl ?_
                      refine q_idiv rfl rfl (by decide) (q_tn (z := 2) rfl ?_)
                      refine q_iadd rfl rfl (q_tn (z := 18) rfl ?_)
                      refine q_iald rfl rfl (by decide) rfl (by decide) (q_tn (z := 1) rfl ?_)
                      refine q_iload rfl rfl rfl ?_
                      refine q_bipush rfl rfl ?_
                      refine q_irem rfl rfl (by decide) (q_tn (z := 0) rfl ?_)
                      refine q_ishr rfl rfl (q_tn (z := 1) rfl ?_)
                      refine q_iconst rfl rfl ?_
                      refine q_iand rfl rfl (q_tn (z := 1) rfl ?_)
                      refine q_iconst rfl rfl ?_
                      refine q_icne rfl rfl (fun c1105 => ?_) (fun c1105 => absurd (by decide) c1105)
                      refine q_icc5 (z := 5) rfl rfl rfl rfl rfl ?_
                      refine q_goto rfl ?_
                      refine q_icc7 (z := 5) rfl rfl rfl rfl rfl ?_
                      refine q_goto rfl ?_
                      refine q_iload rfl rfl rfl ?_
                      refine q_iconst rfl rfl ?_
                      refine q_icge rfl rfl (fun c1106 => ?_) (fun c1106 => absurd (by decide) c1106)
                      refine q_iload rfl rfl rfl ?_
                      refine q_iload rfl rfl rfl ?_
                      refine q_icle rfl rfl (fun c1107 => absurd c1107 (by decide)) (fun c1107 => ?_)
                      refine q_iload rfl rfl rfl ?_
                      refine q_goto rfl ?_
                      refine q_ist7 rfl rfl rfl rfl ?_
                      refine q_aload_n rfl rfl rfl ?_
                      refine q_getf rfl rfl (by decide) rfl rfl ?_
                      refine q_iload rfl rfl rfl ?_
                      refine q_iald rfl rfl (by decide) ((FM_74 hM).trans (FW_74 S hW)) (by decide) (q_tn (z := (-2)) rfl ?_)
                      refine q_bipush rfl rfl ?_
                      refine q_icne rfl rfl (fun c1108 => ?_) (fun c1108 => absurd (by decide) c1108)
                      refine q_iload rfl rfl rfl ?_
                      refine q_iload_n rfl rfl rfl ?_
                      refine q_iclt rfl rfl (fun c1109 => absurd c1109 (by decide)) (fun c1109 => ?_)
                      refine q_goto rfl ?_
                      refine q_icc4 (z := 21) rfl rfl rfl rfl rfl ?_
                      refine q_goto rfl ?_
                      refine q_iload rfl rfl rfl ?_
                      refine q_bipush rfl rfl ?_
                      refine q_icge rfl rfl (fun c1110 => absurd c1110 (by decide)) (fun c1110 => ?_)
                      refine q_iconst rfl rfl ?_
                      refine q_ist5 rfl rfl rfl rfl ?_
                      refine q_iconst rfl rfl ?_
                      refine q_ist6 rfl rfl rfl rfl ?_
                      refine q_iconst rfl rfl ?_
                      refine q_ist7 rfl rfl rfl rfl ?_
                      refine q_iload rfl rfl rfl ?_
                      refine q_iconst rfl rfl ?_
                      refine q_icge rfl rfl (fun c1111 => absurd c1111 (by decide)) (fun c1111 => ?_)
                      refine q_iload_n rfl rfl rfl ?_
                      refine q_iload rfl rfl rfl ?_
                      refine q_ishr rfl rfl (q_tn (z := 31) rfl ?_)
                      refine q_iconst rfl rfl ?_
                      refine q_iand rfl rfl (q_tn (z := 1) rfl ?_)
                      refine q_ifne rfl rfl (fun c1112 => absurd c1112 (by decide)) (fun c1112 => ?_)
                      refine q_aload_n rfl rfl rfl ?_
                      refine q_getf rfl rfl (by decide) rfl rfl ?_
                      refine q_iconst rfl rfl ?_
                      refine q_iload rfl rfl rfl ?_
                      refine q_imul rfl rfl (q_tn (z := 0) rfl ?_)
                      refine q_iload rfl rfl rfl ?_
                      refine q_bipush rfl rfl ?_
                      refine q_idiv rfl rfl (by decide) (q_tn (z := 2) rfl ?_)
                      refine q_iadd rfl rfl (q_tn (z := 2) rfl ?_)
                      refine q_iald rfl rfl (by decide) rfl (by decide) (q_tn (z := 1) rfl ?_)
                      refine q_iload rfl rfl rfl ?_
                      refine q_bipush rfl rfl ?_
                      refine q_irem rfl rfl (by decide) (q_tn (z := 1) rfl ?_)
                      refine q_ishr rfl rfl (q_tn (z := 0) rfl ?_)
                      refine q_iconst rfl rfl ?_
                      refine q_iand rfl rfl (q_tn (z := 0) rfl ?_)
                      refine q_iconst rfl rfl ?_
                      refine q_icne rfl rfl (fun c1113 => absurd c1113 (by decide)) (fun c1113 => ?_)
                      refine q_icc6 (z := 1) rfl rfl rfl rfl rfl ?_
                      refine q_icc7 (z := 1) rfl rfl rfl rfl rfl ?_
                      refine q_goto rfl ?_
                      refine q_iload rfl rfl rfl ?_
                      refine q_iconst rfl rfl ?_
                      refine q_icge rfl rfl (fun c1114 => absurd c1114 (by decide)) (fun c1114 => ?_)
                      refine q_iload_n rfl rfl rfl ?_
                      refine q_iload rfl rfl rfl ?_
                      refine q_ishr rfl rfl (q_tn (z := 15) rfl ?_)
                      refine q_iconst rfl rfl ?_
                      refine q_iand rfl rfl (q_tn (z := 1) rfl ?_)
                      refine q_ifne rfl rfl (fun c1115 => absurd c1115 (by decide)) (fun c1115 => ?_)
                      refine q_aload_n rfl rfl rfl ?_
                      refine q_getf rfl rfl (by decide) rfl rfl ?_
                      refine q_iconst rfl rfl ?_
                      refine q_iload rfl rfl rfl ?_
                      refine q_imul rfl rfl (q_tn (z := 4) rfl ?_)
                      refine q_iload rfl rfl rfl ?_
                      refine q_bipush rfl rfl ?_
                      refine q_idiv rfl rfl (by decide) (q_tn (z := 2) rfl ?_)
                      refine q_iadd rfl rfl (q_tn (z := 6) rfl ?_)
                      refine q_iald rfl rfl (by decide) rfl (by decide) (q_tn (z := 1) rfl ?_)
                      refine q_iload rfl rfl rfl ?_
                      refine q_bipush rfl rfl ?_
                      refine q_irem rfl rfl (by decide) (q_tn (z := 1) rfl ?_)
                      refine q_ishr rfl rfl (q_tn (z := 0) rfl ?_)
                      refine q_iconst rfl rfl ?_
                      refine q_iand rfl rfl (q_tn (z := 0) rfl ?_)
                      refine q_iconst rfl rfl ?_
                      refine q_icne rfl rfl (fun c1116 => absurd c1116 (by decide)) (fun c1116 => ?_)
                      refine q_icc6 (z := 2) rfl rfl rfl rfl rfl ?_
                      refine q_icc7 (z := 2) rfl rfl rfl rfl rfl ?_
                      refine q_goto rfl ?_
                      refine q_iload rfl rfl rfl ?_
                      refine q_iconst rfl rfl ?_
                      refine q_icge rfl rfl (fun c1117 => absurd c1117 (by decide)) (fun c1117 => ?_)
                      refine q_iload_n rfl rfl rfl ?_
                      refine q_iload rfl rfl rfl ?_
                      refine q_ishr rfl rfl (q_tn (z := 7) rfl ?_)
                      refine q_iconst rfl rfl ?_
                      refine q_iand rfl rfl (q_tn (z := 1) rfl ?_)
                      refine q_ifne rfl rfl (fun c1118 => absurd c1118 (by decide)) (fun c1118 => ?_)
                      refine q_aload_n rfl rfl rfl ?_
                      refine q_getf rfl rfl (by decide) rfl rfl ?_
                      refine q_iconst rfl rfl ?_
                      refine q_iload rfl rfl rfl ?_
                      refine q_imul rfl rfl (q_tn (z := 8) rfl ?_)
                      refine q_iload rfl rfl rfl ?_
                      refine q_bipush rfl rfl ?_
                      refine q_idiv rfl rfl (by decide) (q_tn (z := 2) rfl ?_)
                      refine q_iadd rfl rfl (q_tn (z := 10) rfl ?_)
                      refine q_iald rfl rfl (by decide) rfl (by decide) (q_tn (z := 1) rfl ?_)
                      refine q_iload rfl rfl rfl ?_
                      refine q_bipush rfl rfl ?_
                      refine q_irem rfl rfl (by decide) (q_tn (z := 1) rfl ?_)
                      refine q_ishr rfl rfl (q_tn (z := 0) rfl ?_)
                      refine q_iconst rfl rfl ?_
                      refine q_iand rfl rfl (q_tn (z := 0) rfl ?_)
                      refine q_iconst rfl rfl ?_
                      refine q_icne rfl rfl (fun c1119 => absurd c1119 (by decide)) (fun c1119 => ?_)
                      refine q_icc6 (z := 3) rfl rfl rfl rfl rfl ?_
                      refine q_icc7 (z := 3) rfl rfl rfl rfl rfl ?_
                      refine q_goto rfl ?_
                      refine q_iload rfl rfl rfl ?_
                      refine q_iconst rfl rfl ?_
                      refine q_icge rfl rfl (fun c1120 => absurd c1120 (by decide)) (fun c1120 => ?_)
                      refine q_iload_n rfl rfl rfl ?_
                      refine q_iload rfl rfl rfl ?_
                      refine q_ishr rfl rfl (q_tn (z := 3) rfl ?_)
                      refine q_iconst rfl rfl ?_
                      refine q_iand rfl rfl (q_tn (z := 1) rfl ?_)
                      refine q_ifne rfl rfl (fun c1121 => absurd c1121 (by decide)) (fun c1121 => ?_)
                      refine q_aload_n rfl rfl rfl ?_
                      refine q_getf rfl rfl (by decide) rfl rfl ?_
                      refine q_iconst rfl rfl ?_
                      refine q_iload rfl rfl rfl ?_
                      refine q_imul rfl rfl (q_tn (z := 12) rfl ?_)
                      refine q_iload rfl rfl rfl ?_
                      refine q_bipush rfl rfl ?_
                      refine q_idiv rfl rfl (by decide) (q_tn (z := 2) rfl ?_)
                      refine q_iadd rfl rfl (q_tn (z := 14) rfl ?_)
                      refine q_iald rfl rfl (by decide) rfl (by decide) (q_tn (z := 1) rfl ?_)
                      refine q_iload rfl rfl rfl ?_
                      refine q_bipush rfl rfl ?_
                      refine q_irem rfl rfl (by decide) (q_tn (z := 1) rfl ?_)
                      refine q_ishr rfl rfl (q_tn (z := 0) rfl ?_)
                      refine q_iconst rfl rfl ?_
                      refine q_iand rfl rfl (q_tn (z := 0) rfl ?_)
                      refine q_iconst rfl rfl ?_
                      refine q_icne rfl rfl (fun c1122 => absurd c1122 (by decide)) (fun c1122 => ?_)
                      refine q_icc6 (z := 4) rfl rfl rfl rfl rfl ?_
                      refine q_icc7 (z := 4) rfl rfl rfl rfl rfl ?_
                      refine q_goto rfl ?_
                      refine q_iload rfl rfl rfl ?_
                      refine q_iconst rfl rfl ?_
                      refine q_icge rfl rfl (fun c1123 => absurd c1123 (by decide)) (fun c1123 => ?_)
                      refine q_iload_n rfl rfl rfl ?_
                      refine q_iload rfl rfl rfl ?_
                      refine q_ishr rfl rfl (q_tn (z := 1) rfl ?_)
                      refine q_iconst rfl rfl ?_
                      refine q_iand rfl rfl (q_tn (z := 1) rfl ?_)
                      refine q_ifne rfl rfl (fun c1124 => absurd c1124 (by decide)) (fun c1124 => ?_)
                      refine q_aload_n rfl rfl rfl ?_
                      refine q_getf rfl rfl (by decide) rfl rfl ?_
                      refine q_iconst rfl rfl ?_
                      refine q_iload rfl rfl rfl ?_
                      refine q_imul rfl rfl (q_tn (z := 16) rfl ?_)
                      refine q_iload rfl rfl rfl ?_
                      refine q_bipush rfl rfl ?_
                      refine q_idiv rfl rfl (by decide) (q_tn (z := 2) rfl ?_)
                      refine q_iadd rfl rfl (q_tn (z := 18) rfl ?_)
                      refine q_iald rfl rfl (by decide) rfl (by decide) (q_tn (z := 1) rfl ?_)
                      refine q_iload rfl rfl rfl ?_
                      refine q_bipush rfl rfl ?_
                      refine q_irem rfl rfl (by decide) (q_tn (z := 1) rfl ?_)
                      refine q_ishr rfl rfl (q_tn (z := 0) rfl ?_)
                      refine q_iconst rfl rfl ?_
                      refine q_iand rfl rfl (q_tn (z := 0) rfl ?_)
                      refine q_iconst rfl rfl ?_
                      refine q_icne rfl rfl (fun c1125 => absurd c1125 (by decide)) (fun c1125 => ?_)
                      refine q_icc6 (z := 5) rfl rfl rfl rfl rfl ?_
                      refine q_icc7 (z := 5) rfl rfl rfl rfl rfl ?_
                      refine q_goto rfl ?_
                      refine q_iload rfl rfl rfl ?_
                      refine q_iconst rfl rfl ?_
                      refine q_icge rfl rfl (fun c1126 => ?_) (fun c1126 => absurd (by decide) c1126)
                      refine q_iload rfl rfl rfl ?_
                      refine q_iload rfl rfl rfl ?_
                      refine q_icle rfl rfl (fun c1127 => ?_) (fun c1127 => absurd (by decide) c1127)
                      refine q_iload rfl rfl rfl ?_
                      refine q_ist7 rfl rfl rfl rfl ?_
                      refine q_aload_n rfl rfl rfl ?_
                      refine q_getf rfl rfl (by decide) rfl rfl ?_
                      refine q_iload rfl rfl rfl ?_
                      refine q_iald rfl rfl (by decide) ((FM_74 hM).trans (FW_74 S hW)) (by decide) (q_tn (z := (-2)) rfl ?_)
                      refine q_bipush rfl rfl ?_
                      refine q_icne rfl rfl (fun c1128 => ?_) (fun c1128 => absurd (by decide) c1128)
                      refine q_iload rfl rfl rfl ?_
                      refine q_iload_n rfl rfl rfl ?_
                      refine q_iclt rfl rfl (fun c1129 => absurd c1129 (by decide)) (fun c1129 => ?_)
                      refine q_goto rfl ?_
                      refine q_icc4 (z := 22) rfl rfl rfl rfl rfl ?_
                      refine q_goto rfl ?_
                      refine q_iload rfl rfl rfl ?_
                      refine q_bipush rfl rfl ?_
                      refine q_icge rfl rfl (fun c1130 => absurd c1130 (by decide)) (fun c1130 => ?_)
                      refine q_iconst rfl rfl ?_
                      refine q_ist5 rfl rfl rfl rfl ?_
                      refine q_iconst rfl rfl ?_
                      refine q_ist6 rfl rfl rfl rfl ?_
                      refine q_iconst rfl rfl ?_
                      refine q_ist7 rfl rfl rfl rfl ?_
                      refine q_iload rfl rfl rfl ?_
                      refine q_iconst rfl rfl ?_
                      refine q_icge rfl rfl (fun c1131 => absurd c1131 (by decide)) (fun c1131 => ?_)
                      refine q_iload_n rfl rfl rfl ?_
                      refine q_iload rfl rfl rfl ?_
                      refine q_ishr rfl rfl (q_tn (z := 31) rfl ?_)
                      refine q_iconst rfl rfl ?_
                      refine q_iand rfl rfl (q_tn (z := 1) rfl ?_)
                      refine q_ifne rfl rfl (fun c1132 => absurd c1132 (by decide)) (fun c1132 => ?_)
                      refine q_aload_n rfl rfl rfl ?_
                      refine q_getf rfl rfl (by decide) rfl rfl ?_
                      refine q_iconst rfl rfl ?_
                      refine q_iload rfl rfl rfl ?_
                      refine q_imul rfl rfl (q_tn (z := 0) rfl ?_)
                      refine q_iload rfl rfl rfl ?_
                      refine q_bipush rfl rfl ?_
                      refine q_idiv rfl rfl (by decide) (q_tn (z := 2) rfl ?_)
                      refine q_iadd rfl rfl (q_tn (z := 2) rfl ?_)
                      refine q_iald rfl rfl (by decide) rfl (by decide) (q_tn (z := 1) rfl ?_)
                      refine q_iload rfl rfl rfl ?_
                      refine q_bipush rfl rfl ?_
                      refine q_irem rfl rfl (by decide) (q_tn (z := 2) rfl ?_)
                      refine q_ishr rfl rfl (q_tn (z := 0) rfl ?_)
                      refine q_iconst rfl rfl ?_
                      refine q_iand rfl rfl (q_tn (z := 0) rfl ?_)
                      refine q_iconst rfl rfl ?_
                      refine q_icne rfl rfl (fun c1133 => absurd c1133 (by decide)) (fun c1133 => ?_)
                      refine q_icc6 (z := 1) rfl rfl rfl rfl rfl ?_
                      refine q_icc7 (z := 1) rfl rfl rfl rfl rfl ?_
                      refine q_goto rfl ?_
                      refine q_iload rfl rfl rfl ?_
                      refine q_iconst rfl rfl ?_
                      refine q_icge rfl rfl (fun c1134 => absurd c1134 (by decide)) (fun c1134 => ?_)
                      refine q_iload_n rfl rfl rfl ?_
                      refine q_iload rfl rfl rfl ?_
                      refine q_ishr rfl rfl (q_tn (z := 15) rfl ?_)
                      refine q_iconst rfl rfl ?_
                      refine q_iand rfl rfl (q_tn (z := 1) rfl ?_)
                      refine q_ifne rfl rfl (fun c1135 => absurd c1135 (by decide)) (fun c1135 => ?_)
                      refine q_aload_n rfl rfl rfl ?_
                      refine q_getf rfl rfl (by decide) rfl rfl ?_
                      refine q_iconst rfl rfl ?_
                      refine q_iload rfl rfl rfl ?_
                      refine q_imul rfl rfl (q_tn (z := 4) rfl ?_)
                      refine q_iload rfl rfl rfl ?_
                      refine q_bipush rfl rfl ?_
                      refine q_idiv rfl rfl (by decide) (q_tn (z := 2) rfl ?_)
                      refine q_iadd rfl rfl (q_tn (z := 6) rfl ?_)
                      refine q_iald rfl rfl (by decide) rfl (by decide) (q_tn (z := 1) rfl ?_)
                      refine q_iload rfl rfl rfl ?_
                      refine q_bipush rfl rfl ?_
                      refine q_irem rfl rfl (by decide) (q_tn (z := 2) rfl ?_)
                      refine q_ishr rfl rfl (q_tn (z := 0) rfl ?_)
                      refine q_iconst rfl rfl ?_
                      refine q_iand rfl rfl (q_tn (z := 0) rfl ?_)
                      refine q_iconst rfl rfl ?_
                      refine q_icne rfl rfl (fun c1136 => absurd c1136 (by decide)) (fun c1136 => ?_)
                      refine q_icc6 (z := 2) rfl rfl rfl rfl rfl ?_
                      refine q_icc7 (z := 2) rfl rfl rfl rfl rfl ?_
                      refine q_goto rfl ?_
                      refine q_iload rfl rfl rfl ?_
                      refine q_iconst rfl rfl ?_
                      refine q_icge rfl rfl (fun c1137 => absurd c1137 (by decide)) (fun c1137 => ?_)
                      refine q_iload_n rfl rfl rfl ?_
                      refine q_iload rfl rfl rfl ?_
                      refine q_ishr rfl rfl (q_tn (z := 7) rfl ?_)
                      refine q_iconst rfl rfl ?_
                      refine q_iand rfl rfl (q_tn (z := 1) rfl ?_)
                      refine q_ifne rfl rfl (fun c1138 => absurd c1138 (by decide)) (fun c1138 => ?_)
                      refine q_aload_n rfl rfl rfl ?_
                      refine q_getf rfl rfl (by decide) rfl rfl ?_
                      refine q_iconst rfl rfl ?_
                      refine q_iload rfl rfl rfl ?_
                      refine q_imul rfl rfl (q_tn (z := 8) rfl ?_)
                      refine q_iload rfl rfl rfl ?_
                      refine q_bipush rfl rfl ?_
                      refine q_idiv rfl rfl (by decide) (q_tn (z := 2) rfl ?_)
                      refine q_iadd rfl rfl (q_tn (z := 10) rfl ?_)
                      refine q_iald rfl rfl (by decide) rfl (by decide) (q_tn (z := 1) rfl ?_)
                      refine q_iload rfl rfl rfl ?_
                      refine q_bipush rfl rfl ?_
                      refine q_irem rfl rfl (by decide) (q_tn (z := 2) rfl ?_)
                      refine q_ishr rfl rfl (q_tn (z := 0) rfl ?_)
                      refine q_iconst rfl rfl ?_
                      refine q_iand rfl rfl (q_tn (z := 0) rfl ?_)
                      refine q_iconst rfl rfl ?_
                      refine q_icne rfl rfl (fun c1139 => absurd c1139 (by decide)) (fun c1139 => ?_)
                      refine q_icc6 (z := 3) rfl rfl rfl rfl rfl ?_
                      refine q_icc7 (z := 3) rfl rfl rfl rfl rfl ?_
                      refine q_goto rfl ?_
                      refine q_iload rfl rfl rfl ?_
                      refine q_iconst rfl rfl ?_
                      refine q_icge rfl rfl (fun c1140 => absurd c1140 (by decide)) (fun c1140 => ?_)
                      refine q_iload_n rfl rfl rfl ?_
                      refine q_iload rfl rfl rfl ?_
                      refine q_ishr rfl rfl (q_tn (z := 3) rfl ?_)
                      refine q_iconst rfl rfl ?_
                      refine q_iand rfl rfl (q_tn (z := 1) rfl ?_)
                      refine q_ifne rfl rfl (fun c1141 => absurd c1141 (by decide)) (fun c1141 => ?_)
                      refine q_aload_n rfl rfl rfl ?_
                      refine q_getf rfl rfl (by decide) rfl rfl ?_
                      refine q_iconst rfl rfl ?_
                      refine q_iload rfl rfl rfl ?_
                      refine q_imul rfl rfl (q_tn (z := 12) rfl ?_)
                      refine q_iload rfl rfl rfl ?_
                      refine q_bipush rfl rfl ?_
                      refine q_idiv rfl rfl (by decide) (q_tn (z := 2) rfl ?_)
                      refine q_iadd rfl rfl (q_tn (z := 14) rfl ?_)
                      refine q_iald rfl rfl (by decide) rfl (by decide) (q_tn (z := 1) rfl ?_)
                      refine q_iload rfl rfl rfl ?_
                      refine q_bipush rfl rfl ?_
                      refine q_irem rfl rfl (by decide) (q_tn (z := 2) rfl ?_)
                      refine q_ishr rfl rfl (q_tn (z := 0) rfl ?_)
                      refine q_iconst rfl rfl ?_
                      refine q_iand rfl rfl (q_tn (z := 0) rfl ?_)
                      refine q_iconst rfl rfl ?_
                      refine q_icne rfl rfl (fun c1142 => absurd c1142 (by decide)) (fun c1142 => ?_)
                      refine q_icc6 (z := 4) rfl rfl rfl rfl rfl ?_
                      refine q_icc7 (z := 4) rfl rfl rfl rfl rfl ?_
                      refine q_goto rfl ?_
                      refine q_iload rfl rfl rfl ?_
                      refine q_iconst rfl rfl ?_
                      refine q_icge rfl rfl (fun c1143 => absurd c1143 (by decide)) (fun c1143 => ?_)
                      refine q_iload_n rfl rfl rfl ?_
                      refine q_iload rfl rfl rfl ?_
                      refine q_ishr rfl rfl (q_tn (z := 1) rfl ?_)
                      refine q_iconst rfl rfl ?_
                      refine q_iand rfl rfl (q_tn (z := 1) rfl ?_)
                      refine q_ifne rfl rfl (fun c1144 => absurd c1144 (by decide)) (fun c1144 => ?_)
                      refine q_aload_n rfl rfl rfl ?_
                      refine q_getf rfl rfl (by decide) rfl rfl ?_
                      refine q_iconst rfl rfl ?_
                      refine q_iload rfl rfl rfl ?_
                      refine q_imul rfl rfl (q_tn (z := 16) rfl ?_)
                      refine q_iload rfl rfl rfl ?_
                      refine q_bipush rfl rfl ?_
                      refine q_idiv rfl rfl (by decide) (q_tn (z := 2) rfl ?_)
                      refine q_iadd rfl rfl (q_tn (z := 18) rfl ?_)
                      refine q_iald rfl rfl (by decide) rfl (by decide) (q_tn (z := 1) rfl ?_)
                      refine q_iload rfl rfl rfl ?_
                      refine q_bipush rfl rfl ?_
                      refine q_irem rfl rfl (by decide) (q_tn (z := 2) rfl ?_)
                      refine q_ishr rfl rfl (q_tn (z := 0) rfl ?_)
                      refine q_iconst rfl rfl ?_
                      refine q_iand rfl rfl (q_tn (z := 0) rfl ?_)
                      refine q_iconst rfl rfl ?_
                      refine q_icne rfl rfl (fun c1145 => absurd c1145 (by decide)) (fun c1145 => ?_)
                      refine q_icc6 (z := 5) rfl rfl rfl rfl rfl ?_
                      refine q_icc7 (z := 5) rfl rfl rfl rfl rfl ?_
                      refine q_goto rfl ?_
                      refine q_iload rfl rfl rfl ?_
                      refine q_iconst rfl rfl ?_
                      refine q_icge rfl rfl (fun c1146 => ?_) (fun c1146 => absurd (by decide) c1146)
                      refine q_iload rfl rfl rfl ?_
                      refine q_iload rfl rfl rfl ?_
                      refine q_icle rfl rfl (fun c1147 => ?_) (fun c1147 => absurd (by decide) c1147)
                      refine q_iload rfl rfl rfl ?_
                      refine q_ist7 rfl rfl rfl rfl ?_
                      refine q_aload_n rfl rfl rfl ?_
                      refine q_getf rfl rfl (by decide) rfl rfl ?_
                      refine q_iload rfl rfl rfl ?_
                      refine q_iald rfl rfl (by decide) ((FM_74 hM).trans (FW_74 S hW)) (by decide) (q_tn (z := (-2)) rfl ?_)
                      refine q_bipush rfl rfl ?_
                      refine q_icne rfl rfl (fun c1148 => ?_) (fun c1148 => absurd (by decide) c1148)
                      refine q_iload rfl rfl rfl ?_
                      refine q_iload_n rfl rfl rfl ?_
                      refine q_iclt rfl rfl (fun c1149 => absurd c1149 (by decide)) (fun c1149 => ?_)
                      refine q_goto rfl ?_
                      refine q_icc4 (z := 23) rfl rfl rfl rfl rfl ?_
                      refine q_goto rfl ?_
                      refine q_iload rfl rfl rfl ?_
                      refine q_bipush rfl rfl ?_
                      refine q_icge rfl rfl (fun c1150 => absurd c1150 (by decide)) (fun c1150 => ?_)
                      refine q_iconst rfl rfl ?_
                      refine q_ist5 rfl rfl rfl rfl ?_
                      refine q_iconst rfl rfl ?_
                      refine q_ist6 rfl rfl rfl rfl ?_
                      refine q_iconst rfl rfl ?_
                      refine q_ist7 rfl rfl rfl rfl ?_
                      refine q_iload rfl rfl rfl ?_
                      refine q_iconst rfl rfl ?_
                      refine q_icge rfl rfl (fun c1151 => absurd c1151 (by decide)) (fun c1151 => ?_)
                      refine q_iload_n rfl rfl rfl ?_
                      refine q_iload rfl rfl rfl ?_
                      refine q_ishr rfl rfl (q_tn (z := 31) rfl ?_)
                      refine q_iconst rfl rfl ?_
                      refine q_iand rfl rfl (q_tn (z := 1) rfl ?_)
                      refine q_ifne rfl rfl (fun c1152 => absurd c1152 (by decide)) (fun c1152 => ?_)
                      refine q_aload_n rfl rfl rfl ?_
                      refine q_getf rfl rfl (by decide) rfl rfl ?_
                      refine q_iconst rfl rfl ?_
                      refine q_iload rfl rfl rfl ?_
                      refine q_imul rfl rfl (q_tn (z := 0) rfl ?_)
                      refine q_iload rfl rfl rfl ?_
                      refine q_bipush rfl rfl ?_
                      refine q_idiv rfl rfl (by decide) (q_tn (z := 2) rfl ?_)
                      refine q_iadd rfl rfl (q_tn (z := 2) rfl ?_)
                      refine q_iald rfl rfl (by decide) rfl (by decide) (q_tn (z := 1) rfl ?_)
                      refine q_iload rfl rfl rfl ?_
                      refine q_bipush rfl rfl ?_
                      refine q_irem rfl rfl (by decide) (q_tn (z := 3) rfl ?_)
                      refine q_ishr rfl rfl (q_tn (z := 0) rfl ?_)
                      refine q_iconst rfl rfl ?_
                      refine q_iand rfl rfl (q_tn (z := 0) rfl ?_)
                      refine q_iconst rfl rfl ?_
                      refine q_icne rfl rfl (fun c1153 => absurd c1153 (by decide)) (fun c1153 => ?_)
                      refine q_icc6 (z := 1) rfl rfl rfl rfl rfl ?_
                      refine q_icc7 (z := 1) rfl rfl rfl rfl rfl ?_
                      refine q_goto rfl ?_
                      refine q_iload rfl rfl rfl ?_
                      refine q_iconst rfl rfl ?_
                      refine q_icge rfl rfl (fun c1154 => absurd c1154 (by decide)) (fun c1154 => ?_)
                      refine q_iload_n rfl rfl rfl ?_
                      refine q_iload rfl rfl rfl ?_
                      refine q_ishr rfl rfl (q_tn (z := 15) rfl ?_)
                      refine q_iconst rfl rfl ?_
                      refine q_iand rfl rfl (q_tn (z := 1) rfl ?_)
                      refine q_ifne rfl rfl (fun c1155 => absurd c1155 (by decide)) (fun c1155 => ?_)
                      refine q_aload_n rfl rfl rfl ?_
                      refine q_getf rfl rfl (by decide) rfl rfl ?_
                      refine q_iconst rfl rfl ?_
                      refine q_iload rfl rfl rfl ?_
                      refine q_imul rfl rfl (q_tn (z := 4) rfl ?_)
                      refine q_iload rfl rfl rfl ?_
                      refine q_bipush rfl rfl ?_
                      refine q_idiv rfl rfl (by decide) (q_tn (z := 2) rfl ?_)
                      refine q_iadd rfl rfl (q_tn (z := 6) rfl ?_)
                      refine q_iald rfl rfl (by decide) rfl (by decide) (q_tn (z := 1) rfl ?_)
                      refine q_iload rfl rfl rfl ?_
                      refine q_bipush rfl rfl ?_
                      refine q_irem rfl rfl (by decide) (q_tn (z := 3) rfl ?_)
                      refine q_ishr rfl rfl (q_tn (z := 0) rfl ?_)
                      refine q_iconst rfl rfl ?_
                      refine q_iand rfl rfl (q_tn (z := 0) rfl ?_)
                      refine q_iconst rfl rfl ?_
                      refine q_icne rfl rfl (fun c1156 => absurd c1156 (by decide)) (fun c1156 => ?_)
                      refine q_icc6 (z := 2) rfl rfl rfl rfl rfl ?_
                      refine q_icc7 (z := 2) rfl rfl rfl rfl rfl ?_
                      refine q_goto rfl ?_
                      refine q_iload rfl rfl rfl ?_
                      refine q_iconst rfl rfl ?_
                      refine q_icge rfl rfl (fun c1157 => absurd c1157 (by decide)) (fun c1157 => ?_)
                      refine q_iload_n rfl rfl rfl ?_
                      refine q_iload rfl rfl rfl ?_
                      refine q_ishr rfl rfl (q_tn (z := 7) rfl ?_)
                      refine q_iconst rfl rfl ?_
                      refine q_iand rfl rfl (q_tn (z := 1) rfl ?_)
                      refine q_ifne rfl rfl (fun c1158 => absurd c1158 (by decide)) (fun c1158 => ?_)
                      refine q_aload_n rfl rfl rfl ?_
                      refine q_getf rfl rfl (by decide) rfl rfl ?_
                      refine q_iconst rfl rfl ?_
                      refine q_iload rfl rfl rfl ?_
                      refine q_imul rfl rfl (q_tn (z := 8) rfl ?_)
                      refine q_iload rfl rfl rfl ?_
                      refine q_bipush rfl rfl ?_
                      refine q_idiv rfl rfl (by decide) (q_tn (z := 2) rfl ?_)
                      refine q_iadd rfl rfl (q_tn (z := 10) rfl ?_)
                      refine q_iald rfl rfl (by decide) rfl (by decide) (q_tn (z := 1) rfl ?_)
                      refine q_iload rfl rfl rfl ?_
                      refine q_bipush rfl rfl ?_
                      refine q_irem rfl rfl (by decide) (q_tn (z := 3) rfl ?_)
                      refine q_ishr rfl rfl (q_tn (z := 0) rfl ?_)
                      refine q_iconst rfl rfl ?_
                      refine q_iand rfl rfl (q_tn (z := 0) rfl ?_)
                      refine q_iconst rfl rfl ?_
                      refine q_icne rfl rfl (fun c1159 => absurd c1159 (by decide)) (fun c1159 => ?_)
                      refine q_icc6 (z := 3) rfl rfl rfl rfl rfl ?_
                      refine q_icc7 (z := 3) rfl rfl rfl rfl rfl ?_
                      refine q_goto rfl ?_
                      refine q_iload rfl rfl rfl ?_
                      refine q_iconst rfl rfl ?_
                      refine q_icge rfl rfl (fun c1160 => absurd c1160 (by decide)) (fun c1160 => ?_)
                      refine q_iload_n rfl rfl rfl ?_
                      refine q_iload rfl rfl rfl ?_
                      refine q_ishr rfl rfl (q_tn (z := 3) rfl ?_)
                      refine q_iconst rfl rfl ?_
                      refine q_iand rfl rfl (q_tn (z := 1) rfl ?_)
                      refine q_ifne rfl rfl (fun c1161 => absurd c1161 (by decide)) (fun c1161 => ?_)
                      refine q_aload_n rfl rfl rfl ?_
                      refine q_getf rfl rfl (by decide) rfl rfl ?_
                      refine q_iconst rfl rfl ?_
                      refine q_iload rfl rfl rfl ?_
                      refine q_imul rfl rfl (q_tn (z := 12) rfl ?_)
                      refine q_iload rfl rfl rfl ?_
                      refine q_bipush rfl rfl ?_
                      refine q_idiv rfl rfl (by decide) (q_tn (z := 2) rfl ?_)
                      refine q_iadd rfl rfl (q_tn (z := 14) rfl ?_)
                      refine q_iald rfl rfl (by decide) rfl (by decide) (q_tn (z := 1) rfl ?_)
                      refine q_iload rfl rfl rfl ?_
                      refine q_bipush rfl rfl ?_
                      refine q_irem rfl rfl (by decide) (q_tn (z := 3) rfl ?_)
                      refine q_ishr rfl rfl (q_tn (z := 0) rfl ?_)
                      refine q_iconst rfl rfl ?_
                      refine q_iand rfl rfl (q_tn (z := 0) rfl ?_)
                      refine q_iconst rfl rfl ?_
                      refine q_icne rfl rfl (fun c1162 => absurd c1162 (by decide)) (fun c1162 => ?_)
                      refine q_icc6 (z := 4) rfl rfl rfl rfl rfl ?_
                      refine q_icc7 (z := 4) rfl rfl rfl rfl rfl ?_
                      refine q_goto rfl ?_
                      refine q_iload rfl rfl rfl ?_
                      refine q_iconst rfl rfl ?_
                      refine q_icge rfl rfl (fun c1163 => absurd c1163 (by decide)) (fun c1163 => ?_)
                      refine q_iload_n rfl rfl rfl ?_
                      refine q_iload rfl rfl rfl ?_
                      refine q_ishr rfl rfl (q_tn (z := 1) rfl ?_)
                      refine q_iconst rfl rfl ?_
                      refine q_iand rfl rfl (q_tn (z := 1) rfl ?_)
                      refine q_ifne rfl rfl (fun c1164 => absurd c1164 (by decide)) (fun c1164 => ?_)
                      refine q_aload_n rfl rfl rfl ?_
                      refine q_getf rfl rfl (by decide) rfl rfl ?_
                      refine q_iconst rfl rfl ?_
                      refine q_iload rfl rfl rfl ?_
                      refine q_imul rfl rfl (q_tn (z := 16) rfl ?_)
                      refine q_iload rfl rfl rfl ?_
                      refine q_bipush rfl rfl ?_
                      refine q_idiv rfl rfl (by decide) (q_tn (z := 2) rfl ?_)
                      refine q_iadd rfl rfl (q_tn (z := 18) rfl ?_)
                      refine q_iald rfl rfl (by decide) rfl (by decide) (q_tn (z := 1) rfl ?_)
                      refine q_iload rfl rfl rfl ?_
                      refine q_bipush rfl rfl ?_
                      refine q_irem rfl rfl (by decide) (q_tn (z := 3) rfl ?_)
                      refine q_ishr rfl rfl (q_tn (z := 0) rfl ?_)
                      refine q_iconst rfl rfl ?_
                      refine q_iand rfl rfl (q_tn (z := 0) rfl ?_)
                      refine q_iconst rfl rfl ?_
                      refine q_icne rfl rfl (fun c1165 => absurd c1165 (by decide)) (fun c1165 => ?_)
                      refine q_icc6 (z := 5) rfl rfl rfl rfl rfl ?_
                      refine q_icc7 (z := 5) rfl rfl rfl rfl rfl ?_
                      refine q_goto rfl ?_
                      refine q_iload rfl rfl rfl ?_
                      refine q_iconst rfl rfl ?_
                      refine q_icge rfl rfl (fun c1166 => ?_) (fun c1166 => absurd (by decide) c1166)
                      refine q_iload rfl rfl rfl ?_
                      refine q_iload rfl rfl rfl ?_
                      refine q_icle rfl rfl (fun c1167 => ?_) (fun c1167 => absurd (by decide) c1167)
                      refine q_iload rfl rfl rfl ?_
                      refine q_ist7 rfl rfl rfl rfl ?_
                      refine q_aload_n rfl rfl rfl ?_
                      refine q_getf rfl rfl (by decide) rfl rfl ?_
                      refine q_iload rfl rfl rfl ?_
                      refine q_iald rfl rfl (by decide) ((FM_74 hM).trans (FW_74 S hW)) (by decide) (q_tn (z := (-2)) rfl ?_)
                      refine q_bipush rfl rfl ?_
                      refine q_icne rfl rfl (fun c1168 => ?_) (fun c1168 => absurd (by decide) c1168)
                      refine q_iload rfl rfl rfl ?_
                      refine q_iload_n rfl rfl rfl ?_
                      refine q_iclt rfl rfl (fun c1169 => absurd c1169 (by decide)) (fun c1169 => ?_)
                      refine q_goto rfl ?_
                      refine q_icc4 (z := 24) rfl rfl rfl rfl rfl ?_
                      refine q_goto rfl ?_
                      refine q_iload rfl rfl rfl ?_
                      refine q_bipush rfl rfl ?_
                      refine q_icge rfl rfl (fun c1170 => absurd c1170 (by decide)) (fun c1170 => ?_)
                      refine q_iconst rfl rfl ?_
                      refine q_ist5 rfl rfl rfl rfl ?_
                      refine q_iconst rfl rfl ?_
                      refine q_ist6 rfl rfl rfl rfl ?_
                      refine q_iconst rfl rfl ?_
                      refine q_ist7 rfl rfl rfl rfl ?_
                      refine q_iload rfl rfl rfl ?_
                      refine q_iconst rfl rfl ?_
                      refine q_icge rfl rfl (fun c1171 => absurd c1171 (by decide)) (fun c1171 => ?_)
                      refine q_iload_n rfl rfl rfl ?_
                      refine q_iload rfl rfl rfl ?_
                      refine q_ishr rfl rfl (q_tn (z := 31) rfl ?_)
                      refine q_iconst rfl rfl ?_
                      refine q_iand rfl rfl (q_tn (z := 1) rfl ?_)
                      refine q_ifne rfl rfl (fun c1172 => absurd c1172 (by decide)) (fun c1172 => ?_)
                      refine q_aload_n rfl rfl rfl ?_
                      refine q_getf rfl rfl (by decide) rfl rfl ?_
                      refine q_iconst rfl rfl ?_
                      refine q_iload rfl rfl rfl ?_
                      refine q_imul rfl rfl (q_tn (z := 0) rfl ?_)
                      refine q_iload rfl rfl rfl ?_
                      refine q_bipush rfl rfl ?_
                      refine q_idiv rfl rfl (by decide) (q_tn (z := 2) rfl ?_)
                      refine q_iadd rfl rfl (q_tn (z := 2) rfl ?_)
                      refine q_iald rfl rfl (by decide) rfl (by decide) (q_tn (z := 1) rfl ?_)
                      refine q_iload rfl rfl rfl ?_
                      refine q_bipush rfl rfl ?_
                      refine q_irem rfl rfl (by decide) (q_tn (z := 4) rfl ?_)
                      refine q_ishr rfl rfl (q_tn (z := 0) rfl ?_)
                      refine q_iconst rfl rfl ?_
                      refine q_iand rfl rfl (q_tn (z := 0) rfl ?_)
                      refine q_iconst rfl rfl ?_
                      refine q_icne rfl rfl (fun c1173 => absurd c1173 (by decide)) (fun c1173 => ?_)
                      refine q_icc6 (z := 1) rfl rfl rfl rfl rfl ?_
                      refine q_icc7 (z := 1) rfl rfl rfl rfl rfl ?_
                      refine q_goto rfl ?_
                      refine q_iload rfl rfl rfl ?_
                      refine q_iconst rfl rfl ?_
                      refine q_icge rfl rfl (fun c1174 => absurd c1174 (by decide)) (fun c1174 => ?_)
                      refine q_iload_n rfl rfl rfl ?_
                      refine q_iload rfl rfl rfl ?_
                      refine q_ishr rfl rfl (q_tn (z := 15) rfl ?_)
                      refine q_iconst rfl rfl ?_
                      refine q_iand rfl rfl (q_tn (z := 1) rfl ?_)
                      refine q_ifne rfl rfl (fun c1175 => absurd c1175 (by decide)) (fun c1175 => ?_)
                      refine q_aload_n rfl rfl rfl ?_
                      refine q_getf rfl rfl (by decide) rfl rfl ?_
                      refine q_iconst rfl rfl ?_
                      refine q_iload rfl rfl rfl ?_
                      refine q_imul rfl rfl (q_tn (z := 4) rfl ?_)
                      refine q_iload rfl rfl rfl ?_
                      refine q_bipush rfl rfl ?_
                      refine q_idiv rfl rfl (by decide) (q_tn (z := 2) rfl ?_)
                      refine q_iadd rfl rfl (q_tn (z := 6) rfl ?_)
                      refine q_iald rfl rfl (by decide) rfl (by decide) (q_tn (z := 1) rfl ?_)
                      refine q_iload rfl rfl rfl ?_
                      refine q_bipush rfl rfl ?_
                      refine q_irem rfl rfl (by decide) (q_tn (z := 4) rfl ?_)
                      refine q_ishr rfl rfl (q_tn (z := 0) rfl ?_)
                      refine q_iconst rfl rfl ?_
                      refine q_iand rfl rfl (q_tn (z := 0) rfl ?_)
                      refine q_iconst rfl rfl ?_
                      refine q_icne rfl rfl (fun c1176 => absurd c1176 (by decide)) (fun c1176 => ?_)
                      refine q_icc6 (z := 2) rfl rfl rfl rfl rfl ?_
                      refine q_icc7 (z := 2) rfl rfl rfl rfl rfl ?_
                      refine q_goto rfl ?_
                      refine q_iload rfl rfl rfl ?_
                      refine q_iconst rfl rfl ?_
                      refine q_icge rfl rfl (fun c1177 => absurd c1177 (by decide)) (fun c1177 => ?_)
                      refine q_iload_n rfl rfl rfl ?_
                      refine q_iload rfl rfl rfl ?_
                      refine q_ishr rfl rfl (q_tn (z := 7) rfl ?_)
                      refine q_iconst rfl rfl ?_
                      refine q_iand rfl rfl (q_tn (z := 1) rfl ?_)
                      refine q_ifne rfl rfl (fun c1178 => absurd c1178 (by decide)) (fun c1178 => ?_)
                      refine q_aload_n rfl rfl rfl ?_
                      refine q_getf rfl rfl (by decide) rfl rfl ?_
                      refine q_iconst rfl rfl ?_
                      refine q_iload rfl rfl rfl ?_
                      refine q_imul rfl rfl (q_tn (z := 8) rfl ?_)
                      refine q_iload rfl rfl rfl ?_
                      refine q_bipush rfl rfl ?_
                      refine q_idiv rfl rfl (by decide) (q_tn (z := 2) rfl ?_)
                      refine q_iadd rfl rfl (q_tn (z := 10) rfl ?_)
                      refine q_iald rfl rfl (by decide) rfl (by decide) (q_tn (z := 1) rfl ?_)
                      refine q_iload rfl rfl rfl ?_
                      refine q_bipush rfl rfl ?_
                      refine q_irem rfl rfl (by decide) (q_tn (z := 4) rfl ?_)
                      refine q_ishr rfl rfl (q_tn (z := 0) rfl ?_)
                      as_aux_lemma =>
                        refine q_iconst rfl rfl ?_
                        refine q_iand rfl rfl (q_tn (z := 0) rfl ?_)
                        refine q_iconst rfl rfl ?_
                        refine q_icne rfl rfl (fun c1179 => absurd c1179 (by decide)) (fun c1179 => ?_)
                        refine q_icc6 (z := 3) rfl rfl rfl rfl rfl ?_
                        refine q_icc7 (z := 3) rfl rfl rfl rfl rfl ?_
                        refine q_goto rfl ?_
                        refine q_iload rfl rfl rfl ?_
                        refine q_iconst rfl rfl ?_
                        refine q_icge rfl rfl (fun c1180 => absurd c1180 (by decide)) (fun c1180 => ?_)
                        refine q_iload_n rfl rfl rfl ?_
                        refine q_iload rfl rfl rfl ?_
                        refine q_ishr rfl rfl (q_tn (z := 3) rfl ?_)
                        refine q_iconst rfl rfl ?_
                        refine q_iand rfl rfl (q_tn (z := 1) rfl ?_)
                        refine q_ifne rfl rfl (fun c1181 => absurd c1181 (by decide)) (fun c1181 => ?_)
                        refine q_aload_n rfl rfl rfl ?_
                        refine q_getf rfl rfl (by decide) rfl rfl ?_
                        refine q_iconst rfl rfl ?_
                        refine q_iload rfl rfl rfl ?_
                        refine q_imul rfl rfl (q_tn (z := 12) rfl ?_)
                        refine q_iload rfl rfl rfl ?_
                        refine q_bipush rfl rfl ?_
                        refine q_idiv rfl rfl (by decide) (q_tn (z := 2) rfl ?_)
                        refine q_iadd rfl rfl (q_tn (z := 14) rfl ?_)
                        refine q_iald rfl rfl (by decide) rfl (by decide) (q_tn (z := 1) rfl ?_)
                        refine q_iload rfl rfl rfl ?_
                        refine q_bipush rfl rfl ?_
                        refine q_irem rfl rfl (by decide) (q_tn (z := 4) rfl ?_)
                        refine q_ishr rfl rfl (q_tn (z := 0) rfl ?_)
                        refine q_iconst rfl rfl ?_
                        refine q_iand rfl rfl (q_tn (z := 0) rfl ?_)
                        refine q_iconst rfl rfl ?_
                        refine q_icne rfl rfl (fun c1182 => absurd c1182 (by decide)) (fun c1182 => ?_)
                        refine q_icc6 (z := 4) rfl rfl rfl rfl rfl ?_
                        refine q_icc7 (z := 4) rfl rfl rfl rfl rfl ?_
                        refine q_goto rfl ?_
                        refine q_iload rfl rfl rfl ?_
                        refine q_iconst rfl rfl ?_
                        refine q_icge rfl rfl (fun c1183 => absurd c1183 (by decide)) (fun c1183 => ?_)
                        refine q_iload_n rfl rfl rfl ?_
                        refine q_iload rfl rfl rfl ?_
                        refine q_ishr rfl rfl (q_tn (z := 1) rfl ?_)
                        refine q_iconst rfl rfl ?_
                        refine q_iand rfl rfl (q_tn (z := 1) rfl ?_)
                        refine q_ifne rfl rfl (fun c1184 => absurd c1184 (by decide)) (fun c1184 => ?_)
                        refine q_aload_n rfl rfl rfl ?_
                        refine q_getf rfl rfl (by decide) rfl rfl ?_
                        refine q_iconst rfl rfl ?_
                        refine q_iload rfl rfl rfl ?_
                        refine q_imul rfl rfl (q_tn (z := 16) rfl ?_)
                        refine q_iload rfl rfl rfl ?_
                        refine q_bipush rfl rfl ?_
                        refine q_idiv rfl rfl (by decide) (q_tn (z := 2) rfl ?_)
                        refine q_iadd rfl rfl (q_tn (z := 18) rfl ?_)
                        refine q_iald rfl rfl (by decide) rfl (by decide) (q_tn (z := 1) rfl ?_)
                        refine q_iload rfl rfl rfl ?_
                        refine q_bipush rfl rfl ?_
                        refine q_irem rfl rfl (by decide) (q_tn (z := 4) rfl ?_)
                        refine q_ishr rfl rfl (q_tn (z := 0) rfl ?_)
                        refine q_iconst rfl rfl ?_
                        refine q_iand rfl rfl (q_tn (z := 0) rfl ?_)
                        refine q_iconst rfl rfl ?_
                        refine q_icne rfl rfl (fun c1185 => absurd c1185 (by decide)) (fun c1185 => ?_)
                        refine q_icc6 (z := 5) rfl rfl rfl rfl rfl ?_
                        refine q_icc7 (z := 5) rfl rfl rfl rfl rfl ?_
                        refine q_goto rfl ?_
                        refine q_iload rfl rfl rfl ?_
                        refine q_iconst rfl rfl ?_
                        refine q_icge rfl rfl (fun c1186 => ?_) (fun c1186 => absurd (by decide) c1186)
                        refine q_iload rfl rfl rfl ?_
                        refine q_iload rfl rfl rfl ?_
                        refine q_icle rfl rfl (fun c1187 => ?_) (fun c1187 => absurd (by decide) c1187)
                        refine q_iload rfl rfl rfl ?_
                        refine q_ist7 rfl rfl rfl rfl ?_
                        refine q_aload_n rfl rfl rfl ?_
                        refine q_getf rfl rfl (by decide) rfl rfl ?_
                        refine q_iload rfl rfl rfl ?_
                        refine q_iald rfl rfl (by decide) ((FM_74 hM).trans (FW_74 S hW)) (by decide) (q_tn (z := (-2)) rfl ?_)
                        refine q_bipush rfl rfl ?_
                        refine q_icne rfl rfl (fun c1188 => ?_) (fun c1188 => absurd (by decide) c1188)
                        refine q_iload rfl rfl rfl ?_
                        refine q_iload_n rfl rfl rfl ?_
                        refine q_iclt rfl rfl (fun c1189 => absurd c1189 (by decide)) (fun c1189 => ?_)
                        refine q_goto rfl ?_
                        refine q_icc4 (z := 25) rfl rfl rfl rfl rfl ?_
                        refine q_goto rfl ?_
                        refine q_iload rfl rfl rfl ?_
                        refine q_bipush rfl rfl ?_
                        refine q_icge rfl rfl (fun c1190 => absurd c1190 (by decide)) (fun c1190 => ?_)
                        refine q_iconst rfl rfl ?_
                        refine q_ist5 rfl rfl rfl rfl ?_
                        refine q_iconst rfl rfl ?_
                        refine q_ist6 rfl rfl rfl rfl ?_
                        refine q_iconst rfl rfl ?_
                        refine q_ist7 rfl rfl rfl rfl ?_
                        refine q_iload rfl rfl rfl ?_
                        refine q_iconst rfl rfl ?_
                        refine q_icge rfl rfl (fun c1191 => absurd c1191 (by decide)) (fun c1191 => ?_)
                        refine q_iload_n rfl rfl rfl ?_
                        refine q_iload rfl rfl rfl ?_
                        refine q_ishr rfl rfl (q_tn (z := 31) rfl ?_)
                        refine q_iconst rfl rfl ?_
                        refine q_iand rfl rfl (q_tn (z := 1) rfl ?_)
                        refine q_ifne rfl rfl (fun c1192 => absurd c1192 (by decide)) (fun c1192 => ?_)
                        refine q_aload_n rfl rfl rfl ?_
                        refine q_getf rfl rfl (by decide) rfl rfl ?_
                        refine q_iconst rfl rfl ?_
                        refine q_iload rfl rfl rfl ?_
                        refine q_imul rfl rfl (q_tn (z := 0) rfl ?_)
                        refine q_iload rfl rfl rfl ?_
                        refine q_bipush rfl rfl ?_
                        refine q_idiv rfl rfl (by decide) (q_tn (z := 2) rfl ?_)
                        refine q_iadd rfl rfl (q_tn (z := 2) rfl ?_)
                        refine q_iald rfl rfl (by decide) rfl (by decide) (q_tn (z := 1) rfl ?_)
                        refine q_iload rfl rfl rfl ?_
                        refine q_bipush rfl rfl ?_
                        refine q_irem rfl rfl (by decide) (q_tn (z := 5) rfl ?_)
                        refine q_ishr rfl rfl (q_tn (z := 0) rfl ?_)
                        refine q_iconst rfl rfl ?_
                        refine q_iand rfl rfl (q_tn (z := 0) rfl ?_)
                        refine q_iconst rfl rfl ?_
                        refine q_icne rfl rfl (fun c1193 => absurd c1193 (by decide)) (fun c1193 => ?_)
                        refine q_icc6 (z := 1) rfl rfl rfl rfl rfl ?_
                        refine q_icc7 (z := 1) rfl rfl rfl rfl rfl ?_
                        refine q_goto rfl ?_
                        refine q_iload rfl rfl rfl ?_
                        refine q_iconst rfl rfl ?_
                        refine q_icge rfl rfl (fun c1194 => absurd c1194 (by decide)) (fun c1194 => ?_)
                        refine q_iload_n rfl rfl rfl ?_
                        refine q_iload rfl rfl rfl ?_
                        refine q_ishr rfl rfl (q_tn (z := 15) rfl ?_)
                        refine q_iconst rfl rfl ?_
                        refine q_iand rfl rfl (q_tn (z := 1) rfl ?_)
                        refine q_ifne rfl rfl (fun c1195 => absurd c1195 (by decide)) (fun c1195 => ?_)
                        refine q_aload_n rfl rfl rfl ?_
                        refine q_getf rfl rfl (by decide) rfl rfl ?_
                        refine q_iconst rfl rfl ?_
                        refine q_iload rfl rfl rfl ?_
                        refine q_imul rfl rfl (q_tn (z := 4) rfl ?_)
                        refine q_iload rfl rfl rfl ?_
                        refine q_bipush rfl rfl ?_
                        refine q_idiv rfl rfl (by decide) (q_tn (z := 2) rfl ?_)
                        refine q_iadd rfl rfl (q_tn (z := 6) rfl ?_)
                        refine q_iald rfl rfl (by decide) rfl (by decide) (q_tn (z := 1) rfl ?_)
                        refine q_iload rfl rfl rfl ?_
                        refine q_bipush rfl rfl ?_
                        refine q_irem rfl rfl (by decide) (q_tn (z := 5) rfl ?_)
                        refine q_ishr rfl rfl (q_tn (z := 0) rfl ?_)
                        refine q_iconst rfl rfl ?_
                        refine q_iand rfl rfl (q_tn (z := 0) rfl ?_)
                        refine q_iconst rfl rfl ?_
                        refine q_icne rfl rfl (fun c1196 => absurd c1196 (by decide)) (fun c1196 => ?_)
                        refine q_icc6 (z := 2) rfl rfl rfl rfl rfl ?_
                        refine q_icc7 (z := 2) rfl rfl rfl rfl rfl ?_
                        refine q_goto rfl ?_
                        refine q_iload rfl rfl rfl ?_
                        refine q_iconst rfl rfl ?_
                        refine q_icge rfl rfl (fun c1197 => absurd c1197 (by decide)) (fun c1197 => ?_)
                        refine q_iload_n rfl rfl rfl ?_
                        refine q_iload rfl rfl rfl ?_
                        refine q_ishr rfl rfl (q_tn (z := 7) rfl ?_)
                        refine q_iconst rfl rfl ?_
                        refine q_iand rfl rfl (q_tn (z := 1) rfl ?_)
                        refine q_ifne rfl rfl (fun c1198 => absurd c1198 (by decide)) (fun c1198 => ?_)
                        refine q_aload_n rfl rfl rfl ?_
                        refine q_getf rfl rfl (by decide) rfl rfl ?_
                        refine q_iconst rfl rfl ?_
                        refine q_iload rfl rfl rfl ?_
                        refine q_imul rfl rfl (q_tn (z := 8) rfl ?_)
                        refine q_iload rfl rfl rfl ?_
                        refine q_bipush rfl rfl ?_
                        refine q_idiv rfl rfl (by decide) (q_tn (z := 2) rfl ?_)
                        refine q_iadd rfl rfl (q_tn (z := 10) rfl ?_)
                        refine q_iald rfl rfl (by decide) rfl (by decide) (q_tn (z := 1) rfl ?_)
                        refine q_iload rfl rfl rfl ?_
                        refine q_bipush rfl rfl ?_
                        refine q_irem rfl rfl (by decide) (q_tn (z := 5) rfl ?_)
                        refine q_ishr rfl rfl (q_tn (z := 0) rfl ?_)
                        refine q_iconst rfl rfl ?_
                        refine q_iand rfl rfl (q_tn (z := 0) rfl ?_)
                        refine q_iconst rfl rfl ?_
                        refine q_icne rfl rfl (fun c1199 => absurd c1199 (by decide)) (fun c1199 => ?_)
                        refine q_icc6 (z := 3) rfl rfl rfl rfl rfl ?_
                        refine q_icc7 (z := 3) rfl rfl rfl rfl rfl ?_
                        refine q_goto rfl ?_
                        refine q_iload rfl rfl rfl ?_
                        refine q_iconst rfl rfl ?_
                        refine q_icge rfl rfl (fun c1200 => absurd c1200 (by decide)) (fun c1200 => ?_)
                        refine q_iload_n rfl rfl rfl ?_
                        refine q_iload rfl rfl rfl ?_
                        refine q_ishr rfl rfl (q_tn (z := 3) rfl ?_)
                        refine q_iconst rfl rfl ?_
                        refine q_iand rfl rfl (q_tn (z := 1) rfl ?_)
                        refine q_ifne rfl rfl (fun c1201 => absurd c1201 (by decide)) (fun c1201 => ?_)
                        refine q_aload_n rfl rfl rfl ?_
                        refine q_getf rfl rfl (by decide) rfl rfl ?_
                        refine q_iconst rfl rfl ?_
                        refine q_iload rfl rfl rfl ?_
                        refine q_imul rfl rfl (q_tn (z := 12) rfl ?_)
                        refine q_iload rfl rfl rfl ?_
                        refine q_bipush rfl rfl ?_
                        refine q_idiv rfl rfl (by decide) (q_tn (z := 2) rfl ?_)
                        refine q_iadd rfl rfl (q_tn (z := 14) rfl ?_)
                        refine q_iald rfl rfl (by decide) rfl (by decide) (q_tn (z := 1) rfl ?_)
                        refine q_iload rfl rfl rfl ?_
                        refine q_bipush rfl rfl ?_
                        refine q_irem rfl rfl (by decide) (q_tn (z := 5) rfl ?_)
                        refine q_ishr rfl rfl (q_tn (z := 0) rfl ?_)
                        refine q_iconst rfl rfl ?_
                        refine q_iand rfl rfl (q_tn (z := 0) rfl ?_)
                        refine q_iconst rfl rfl ?_
                        refine q_icne rfl rfl (fun c1202 => absurd c1202 (by decide)) (fun c1202 => ?_)
                        refine q_icc6 (z := 4) rfl rfl rfl rfl rfl ?_
                        refine q_icc7 (z := 4) rfl rfl rfl rfl rfl ?_
                        refine q_goto rfl ?_
                        refine q_iload rfl rfl rfl ?_
                        refine q_iconst rfl rfl ?_
                        refine q_icge rfl rfl (fun c1203 => absurd c1203 (by decide)) (fun c1203 => ?_)
                        refine q_iload_n rfl rfl rfl ?_
                        refine q_iload rfl rfl rfl ?_
                        refine q_ishr rfl rfl (q_tn (z := 1) rfl ?_)
                        refine q_iconst rfl rfl ?_
                        refine q_iand rfl rfl (q_tn (z := 1) rfl ?_)
                        refine q_ifne rfl rfl (fun c1204 => absurd c1204 (by decide)) (fun c1204 => ?_)
                        refine q_aload_n rfl rfl rfl ?_
                        refine q_getf rfl rfl (by decide) rfl rfl ?_
                        refine q_iconst rfl rfl ?_
                        refine q_iload rfl rfl rfl ?_
                        refine q_imul rfl rfl (q_tn (z := 16) rfl ?_)
                        refine q_iload rfl rfl rfl ?_
                        refine q_bipush rfl rfl ?_
                        refine q_idiv rfl rfl (by decide) (q_tn (z := 2) rfl ?_)
                        refine q_iadd rfl rfl (q_tn (z := 18) rfl ?_)
                        refine q_iald rfl rfl (by decide) rfl (by decide) (q_tn (z := 1) rfl ?_)
                        refine q_iload rfl rfl rfl ?_
                        refine q_bipush rfl rfl ?_
                        refine q_irem rfl rfl (by decide) (q_tn (z := 5) rfl ?_)
                        refine q_ishr rfl rfl (q_tn (z := 0) rfl ?_)
                        refine q_iconst rfl rfl ?_
                        refine q_iand rfl rfl (q_tn (z := 0) rfl ?_)
                        refine q_iconst rfl rfl ?_
                        refine q_icne rfl rfl (fun c1205 => absurd c1205 (by decide)) (fun c1205 => ?_)
                        refine q_icc6 (z := 5) rfl rfl rfl rfl rfl ?_
                        refine q_icc7 (z := 5) rfl rfl rfl rfl rfl ?_
                        refine q_goto rfl ?_
                        refine q_iload rfl rfl rfl ?_
                        refine q_iconst rfl rfl ?_
                        refine q_icge rfl rfl (fun c1206 => ?_) (fun c1206 => absurd (by decide) c1206)
                        refine q_iload rfl rfl rfl ?_
                        refine q_iload rfl rfl rfl ?_
                        refine q_icle rfl rfl (fun c1207 => ?_) (fun c1207 => absurd (by decide) c1207)
                        refine q_iload rfl rfl rfl ?_
                        refine q_ist7 rfl rfl rfl rfl ?_
                        refine q_aload_n rfl rfl rfl ?_
                        refine q_getf rfl rfl (by decide) rfl rfl ?_
                        refine q_iload rfl rfl rfl ?_
                        refine q_iald rfl rfl (by decide) ((FM_74 hM).trans (FW_74 S hW)) (by decide) (q_tn (z := (-2)) rfl ?_)
                        refine q_bipush rfl rfl ?_
                        refine q_icne rfl rfl (fun c1208 => ?_) (fun c1208 => absurd (by decide) c1208)
                        refine q_iload rfl rfl rfl ?_
                        refine q_iload_n rfl rfl rfl ?_
                        refine q_iclt rfl rfl (fun c1209 => absurd c1209 (by decide)) (fun c1209 => ?_)
                        refine q_goto rfl ?_
                        refine q_icc4 (z := 26) rfl rfl rfl rfl rfl ?_
                        refine q_goto rfl ?_
                        refine q_iload rfl rfl rfl ?_
                        refine q_bipush rfl rfl ?_
                        refine q_icge rfl rfl (fun c1210 => absurd c1210 (by decide)) (fun c1210 => ?_)
                        refine q_iconst rfl rfl ?_
                        refine q_ist5 rfl rfl rfl rfl ?_
                        refine q_iconst rfl rfl ?_
                        refine q_ist6 rfl rfl rfl rfl ?_
                        refine q_iconst rfl rfl ?_
                        refine q_ist7 rfl rfl rfl rfl ?_
                        refine q_iload rfl rfl rfl ?_
                        refine q_iconst rfl rfl ?_
                        refine q_icge rfl rfl (fun c1211 => absurd c1211 (by decide)) (fun c1211 => ?_)
                        refine q_iload_n rfl rfl rfl ?_
                        refine q_iload rfl rfl rfl ?_
                        refine q_ishr rfl rfl (q_tn (z := 31) rfl ?_)
                        refine q_iconst rfl rfl ?_
                        refine q_iand rfl rfl (q_tn (z := 1) rfl ?_)
                        refine q_ifne rfl rfl (fun c1212 => absurd c1212 (by decide)) (fun c1212 => ?_)
                        refine q_aload_n rfl rfl rfl ?_
                        refine q_getf rfl rfl (by decide) rfl rfl ?_
                        refine q_iconst rfl rfl ?_
                        refine q_iload rfl rfl rfl ?_
                        refine q_imul rfl rfl (q_tn (z := 0) rfl ?_)
                        refine q_iload rfl rfl rfl ?_
                        refine q_bipush rfl rfl ?_
                        refine q_idiv rfl rfl (by decide) (q_tn (z := 2) rfl ?_)
                        refine q_iadd rfl rfl (q_tn (z := 2) rfl ?_)
                        refine q_iald rfl rfl (by decide) rfl (by decide) (q_tn (z := 1) rfl ?_)
                        refine q_iload rfl rfl rfl ?_
                        refine q_bipush rfl rfl ?_
                        refine q_irem rfl rfl (by decide) (q_tn (z := 6) rfl ?_)
                        refine q_ishr rfl rfl (q_tn (z := 0) rfl ?_)
                        refine q_iconst rfl rfl ?_
                        refine q_iand rfl rfl (q_tn (z := 0) rfl ?_)
                        refine q_iconst rfl rfl ?_
                        refine q_icne rfl rfl (fun c1213 => absurd c1213 (by decide)) (fun c1213 => ?_)
                        refine q_icc6 (z := 1) rfl rfl rfl rfl rfl ?_
                        refine q_icc7 (z := 1) rfl rfl rfl rfl rfl ?_
                        refine q_goto rfl ?_
                        refine q_iload rfl rfl rfl ?_
                        refine q_iconst rfl rfl ?_
                        refine q_icge rfl rfl (fun c1214 => absurd c1214 (by decide)) (fun c1214 => ?_)
                        refine q_iload_n rfl rfl rfl ?_
                        refine q_iload rfl rfl rfl ?_
                        refine q_ishr rfl rfl (q_tn (z := 15) rfl ?_)
                        refine q_iconst rfl rfl ?_
                        refine q_iand rfl rfl (q_tn (z := 1) rfl ?_)
                        refine q_ifne rfl rfl (fun c1215 => absurd c1215 (by decide)) (fun c1215 => ?_)
                        refine q_aload_n rfl rfl rfl ?_
                        refine q_getf rfl rfl (by decide) rfl rfl ?_
                        refine q_iconst rfl rfl ?_
                        refine q_iload rfl rfl rfl ?_
                        refine q_imul rfl rfl (q_tn (z := 4) rfl ?_)
                        refine q_iload rfl rfl rfl ?_
                        refine q_bipush rfl rfl ?_
                        refine q_idiv rfl rfl (by decide) (q_tn (z := 2) rfl ?_)
                        refine q_iadd rfl rfl (q_tn (z := 6) rfl ?_)
                        refine q_iald rfl rfl (by decide) rfl (by decide) (q_tn (z := 1) rfl ?_)
                        refine q_iload rfl rfl rfl ?_
                        refine q_bipush rfl rfl ?_
                        refine q_irem rfl rfl (by decide) (q_tn (z := 6) rfl ?_)
                        refine q_ishr rfl rfl (q_tn (z := 0) rfl ?_)
                        refine q_iconst rfl rfl ?_
                        refine q_iand rfl rfl (q_tn (z := 0) rfl ?_)
                        refine q_iconst rfl rfl ?_
                        refine q_icne rfl rfl (fun c1216 => absurd c1216 (by decide)) (fun c1216 => ?_)
                        refine q_icc6 (z := 2) rfl rfl rfl rfl rfl ?_
                        refine q_icc7 (z := 2) rfl rfl rfl rfl rfl ?_
                        refine q_goto rfl ?_
                        refine q_iload rfl rfl rfl ?_
                        refine q_iconst rfl rfl ?_
                        refine q_icge rfl rfl (fun c1217 => absurd c1217 (by decide)) (fun c1217 => ?_)
                        refine q_iload_n rfl rfl rfl ?_
                        refine q_iload rfl rfl rfl ?_
                        refine q_ishr rfl rfl (q_tn (z := 7) rfl ?_)
                        refine q_iconst rfl rfl ?_
                        refine q_iand rfl rfl (q_tn (z := 1) rfl ?_)
                        refine q_ifne rfl rfl (fun c1218 => absurd c1218 (by decide)) (fun c1218 => ?_)
                        refine q_aload_n rfl rfl rfl ?_
                        refine q_getf rfl rfl (by decide) rfl rfl ?_
                        refine q_iconst rfl rfl ?_
                        refine q_iload rfl rfl rfl ?_
                        refine q_imul rfl rfl (q_tn (z := 8) rfl ?_)
                        refine q_iload rfl rfl rfl ?_
                        refine q_bipush rfl rfl ?_
                        refine q_idiv rfl rfl (by decide) (q_tn (z := 2) rfl ?_)
                        refine q_iadd rfl rfl (q_tn (z := 10) rfl ?_)
                        refine q_iald rfl rfl (by decide) rfl (by decide) (q_tn (z := 1) rfl ?_)
                        refine q_iload rfl rfl rfl ?_
                        refine q_bipush rfl rfl ?_
                        refine q_irem rfl rfl (by decide) (q_tn (z := 6) rfl ?_)
                        refine q_ishr rfl rfl (q_tn (z := 0) rfl ?_)
                        refine q_iconst rfl rfl ?_
                        refine q_iand rfl rfl (q_tn (z := 0) rfl ?_)
                        refine q_iconst rfl rfl ?_
                        refine q_icne rfl rfl (fun c1219 => absurd c1219 (by decide)) (fun c1219 => ?_)
                        refine q_icc6 (z := 3) rfl rfl rfl rfl rfl ?_
                        refine q_icc7 (z := 3) rfl rfl rfl rfl rfl ?_
                        refine q_goto rfl ?_
                        refine q_iload rfl rfl rfl ?_
                        refine q_iconst rfl rfl ?_
                        refine q_icge rfl rfl (fun c1220 => absurd c1220 (by decide)) (fun c1220 => ?_)
                        refine q_iload_n rfl rfl rfl ?_
                        refine q_iload rfl rfl rfl ?_
                        refine q_ishr rfl rfl (q_tn (z := 3) rfl ?_)
                        refine q_iconst rfl rfl ?_
                        refine q_iand rfl rfl (q_tn (z := 1) rfl ?_)
                        refine q_ifne rfl rfl (fun c1221 => absurd c1221 (by decide)) (fun c1221 => ?_)
                        refine q_aload_n rfl rfl rfl ?_
                        refine q_getf rfl rfl (by decide) rfl rfl ?_
                        refine q_iconst rfl rfl ?_
                        refine q_iload rfl rfl rfl ?_
                        refine q_imul rfl rfl (q_tn (z := 12) rfl ?_)
                        refine q_iload rfl rfl rfl ?_
                        refine q_bipush rfl rfl ?_
                        refine q_idiv rfl rfl (by decide) (q_tn (z := 2) rfl ?_)
                        refine q_iadd rfl rfl (q_tn (z := 14) rfl ?_)
                        refine q_iald rfl rfl (by decide) rfl (by decide) (q_tn (z := 1) rfl ?_)
                        refine q_iload rfl rfl rfl ?_
                        refine q_bipush rfl rfl ?_
                        refine q_irem rfl rfl (by decide) (q_tn (z := 6) rfl ?_)
                        refine q_ishr rfl rfl (q_tn (z := 0) rfl ?_)
                        refine q_iconst rfl rfl ?_
                        refine q_iand rfl rfl (q_tn (z := 0) rfl ?_)
                        refine q_iconst rfl rfl ?_
                        refine q_icne rfl rfl (fun c1222 => absurd c1222 (by decide)) (fun c1222 => ?_)
                        refine q_icc6 (z := 4) rfl rfl rfl rfl rfl ?_
                        refine q_icc7 (z := 4) rfl rfl rfl rfl rfl ?_
                        refine q_goto rfl ?_
                        refine q_iload rfl rfl rfl ?_
                        refine q_iconst rfl rfl ?_
                        refine q_icge rfl rfl (fun c1223 => absurd c1223 (by decide)) (fun c1223 => ?_)
                        refine q_iload_n rfl rfl rfl ?_
                        refine q_iload rfl rfl rfl ?_
                        refine q_ishr rfl rfl (q_tn (z := 1) rfl ?_)
                        refine q_iconst rfl rfl ?_
                        refine q_iand rfl rfl (q_tn (z := 1) rfl ?_)
                        refine q_ifne rfl rfl (fun c1224 => absurd c1224 (by decide)) (fun c1224 => ?_)
                        refine q_aload_n rfl rfl rfl ?_
                        refine q_getf rfl rfl (by decide) rfl rfl ?_
                        refine q_iconst rfl rfl ?_
                        refine q_iload rfl rfl rfl ?_
                        refine q_imul rfl rfl (q_tn (z := 16) rfl ?_)
                        refine q_iload rfl rfl rfl ?_
                        refine q_bipush rfl rfl ?_
                        refine q_idiv rfl rfl (by decide) (q_tn (z := 2) rfl ?_)
                        refine q_iadd rfl rfl (q_tn (z := 18) rfl ?_)
                        refine q_iald rfl rfl (by decide) rfl (by decide) (q_tn (z := 1) rfl ?_)
                        refine q_iload rfl rfl rfl ?_
                        refine q_bipush rfl rfl ?_
                        refine q_irem rfl rfl (by decide) (q_tn (z := 6) rfl ?_)
                        refine q_ishr rfl rfl (q_tn (z := 0) rfl ?_)
                        refine q_iconst rfl rfl ?_
                        refine q_iand rfl rfl (q_tn (z := 0) rfl ?_)
                        refine q_iconst rfl rfl ?_
                        refine q_icne rfl rfl (fun c1225 => absurd c1225 (by decide)) (fun c1225 => ?_)
                        refine q_icc6 (z := 5) rfl rfl rfl rfl rfl ?_
                        refine q_icc7 (z := 5) rfl rfl rfl rfl rfl ?_
                        refine q_goto rfl ?_
                        refine q_iload rfl rfl rfl ?_
                        refine q_iconst rfl rfl ?_
                        refine q_icge rfl rfl (fun c1226 => ?_) (fun c1226 => absurd (by decide) c1226)
                        refine q_iload rfl rfl rfl ?_
                        refine q_iload rfl rfl rfl ?_
                        refine q_icle rfl rfl (fun c1227 => ?_) (fun c1227 => absurd (by decide) c1227)
                        refine q_iload rfl rfl rfl ?_
                        refine q_ist7 rfl rfl rfl rfl ?_
                        refine q_aload_n rfl rfl rfl ?_
                        refine q_getf rfl rfl (by decide) rfl rfl ?_
                        refine q_iload rfl rfl rfl ?_
                        refine q_iald rfl rfl (by decide) ((FM_74 hM).trans (FW_74 S hW)) (by decide) (q_tn (z := (-2)) rfl ?_)
                        refine q_bipush rfl rfl ?_
                        refine q_icne rfl rfl (fun c1228 => ?_) (fun c1228 => absurd (by decide) c1228)
                        refine q_iload rfl rfl rfl ?_
                        refine q_iload_n rfl rfl rfl ?_
                        refine q_iclt rfl rfl (fun c1229 => absurd c1229 (by decide)) (fun c1229 => ?_)
                        refine q_goto rfl ?_
                        refine q_icc4 (z := 27) rfl rfl rfl rfl rfl ?_
                        refine q_goto rfl ?_
                        refine q_iload rfl rfl rfl ?_
                        refine q_bipush rfl rfl ?_
                        refine q_icge rfl rfl (fun c1230 => absurd c1230 (by decide)) (fun c1230 => ?_)
                        refine q_iconst rfl rfl ?_
                        refine q_ist5 rfl rfl rfl rfl ?_
                        refine q_iconst rfl rfl ?_
                        refine q_ist6 rfl rfl rfl rfl ?_
                        refine q_iconst rfl rfl ?_
                        refine q_ist7 rfl rfl rfl rfl ?_
                        refine q_iload rfl rfl rfl ?_
                        refine q_iconst rfl rfl ?_
                        refine q_icge rfl rfl (fun c1231 => absurd c1231 (by decide)) (fun c1231 => ?_)
                        refine q_iload_n rfl rfl rfl ?_
                        refine q_iload rfl rfl rfl ?_
                        refine q_ishr rfl rfl (q_tn (z := 31) rfl ?_)
                        refine q_iconst rfl rfl ?_
                        refine q_iand rfl rfl (q_tn (z := 1) rfl ?_)
                        refine q_ifne rfl rfl (fun c1232 => absurd c1232 (by decide)) (fun c1232 => ?_)
                        refine q_aload_n rfl rfl rfl ?_
                        refine q_getf rfl rfl (by decide) rfl rfl ?_
                        refine q_iconst rfl rfl ?_
                        refine q_iload rfl rfl rfl ?_
                        refine q_imul rfl rfl (q_tn (z := 0) rfl ?_)
                        refine q_iload rfl rfl rfl ?_
                        refine q_bipush rfl rfl ?_
                        refine q_idiv rfl rfl (by decide) (q_tn (z := 2) rfl ?_)
                        refine q_iadd rfl rfl (q_tn (z := 2) rfl ?_)
                        refine q_iald rfl rfl (by decide) rfl (by decide) (q_tn (z := 1) rfl ?_)
                        refine q_iload rfl rfl rfl ?_
                        refine q_bipush rfl rfl ?_
                        refine q_irem rfl rfl (by decide) (q_tn (z := 7) rfl ?_)
                        refine q_ishr rfl rfl (q_tn (z := 0) rfl ?_)
                        refine q_iconst rfl rfl ?_
                        refine q_iand rfl rfl (q_tn (z := 0) rfl ?_)
                        refine q_iconst rfl rfl ?_
                        refine q_icne rfl rfl (fun c1233 => absurd c1233 (by decide)) (fun c1233 => ?_)
                        refine q_icc6 (z := 1) rfl rfl rfl rfl rfl ?_
                        refine q_icc7 (z := 1) rfl rfl rfl rfl rfl ?_
                        refine q_goto rfl ?_
                        refine q_iload rfl rfl rfl ?_
                        refine q_iconst rfl rfl ?_
                        refine q_icge rfl rfl (fun c1234 => absurd c1234 (by decide)) (fun c1234 => ?_)
                        refine q_iload_n rfl rfl rfl ?_
                        refine q_iload rfl rfl rfl ?_
                        refine q_ishr rfl rfl (q_tn (z := 15) rfl ?_)
                        refine q_iconst rfl rfl ?_
                        refine q_iand rfl rfl (q_tn (z := 1) rfl ?_)
                        refine q_ifne rfl rfl (fun c1235 => absurd c1235 (by decide)) (fun c1235 => ?_)
                        refine q_aload_n rfl rfl rfl ?_
                        refine q_getf rfl rfl (by decide) rfl rfl ?_
                        refine q_iconst rfl rfl ?_
                        refine q_iload rfl rfl rfl ?_
                        refine q_imul rfl rfl (q_tn (z := 4) rfl ?_)
                        refine q_iload rfl rfl rfl ?_
                        refine q_bipush rfl rfl ?_
                        refine q_idiv rfl rfl (by decide) (q_tn (z := 2) rfl ?_)
                        refine q_iadd rfl rfl (q_tn (z := 6) rfl ?_)
                        refine q_iald rfl rfl (by decide) rfl (by decide) (q_tn (z := 1) rfl ?_)
                        refine q_iload rfl rfl rfl ?_
                        refine q_bipush rfl rfl ?_
                        refine q_irem rfl rfl (by decide) (q_tn (z := 7) rfl ?_)
                        refine q_ishr rfl rfl (q_tn (z := 0) rfl ?_)
                        refine q_iconst rfl rfl ?_
                        refine q_iand rfl rfl (q_tn (z := 0) rfl ?_)
                        refine q_iconst rfl rfl ?_
                        refine q_icne rfl rfl (fun c1236 => absurd c1236 (by decide)) (fun c1236 => ?_)
                        refine q_icc6 (z := 2) rfl rfl rfl rfl rfl ?_
                        refine q_icc7 (z := 2) rfl rfl rfl rfl rfl ?_
                        refine q_goto rfl ?_
                        refine q_iload rfl rfl rfl ?_
                        refine q_iconst rfl rfl ?_
                        refine q_icge rfl rfl (fun c1237 => absurd c1237 (by decide)) (fun c1237 => ?_)
                        refine q_iload_n rfl rfl rfl ?_
                        refine q_iload rfl rfl rfl ?_
                        refine q_ishr rfl rfl (q_tn (z := 7) rfl ?_)
                        refine q_iconst rfl rfl ?_
                        refine q_iand rfl rfl (q_tn (z := 1) rfl ?_)
                        refine q_ifne rfl rfl (fun c1238 => absurd c1238 (by decide)) (fun c1238 => ?_)
                        refine q_aload_n rfl rfl rfl ?_
                        refine q_getf rfl rfl (by decide) rfl rfl ?_
                        refine q_iconst rfl rfl ?_
                        refine q_iload rfl rfl rfl ?_
                        refine q_imul rfl rfl (q_tn (z := 8) rfl ?_)
                        refine q_iload rfl rfl rfl ?_
                        refine q_bipush rfl rfl ?_
                        refine q_idiv rfl rfl (by decide) (q_tn (z := 2) rfl ?_)
                        refine q_iadd rfl rfl (q_tn (z := 10) rfl ?_)
                        refine q_iald rfl rfl (by decide) rfl (by decide) (q_tn (z := 1) rfl ?_)
                        refine q_iload rfl rfl rfl ?_
                        refine q_bipush rfl rfl ?_
                        refine q_irem rfl rfl (by decide) (q_tn (z := 7) rfl ?_)
                        refine q_ishr rfl rfl (q_tn (z := 0) rfl ?_)
                        refine q_iconst rfl rfl ?_
                        refine q_iand rfl rfl (q_tn (z := 0) rfl ?_)
                        refine q_iconst rfl rfl ?_
                        refine q_icne rfl rfl (fun c1239 => absurd c1239 (by decide)) (fun c1239 => ?_)
                        refine q_icc6 (z := 3) rfl rfl rfl rfl rfl ?_
                        refine q_icc7 (z := 3) rfl rfl rfl rfl rfl ?_
                        refine q_goto rfl ?_
                        refine q_iload rfl rfl rfl ?_
                        refine q_iconst rfl rfl ?_
                        refine q_icge rfl rfl (fun c1240 => absurd c1240 (by decide)) (fun c1240 => ?_)
                        refine q_iload_n rfl rfl rfl ?_
                        refine q_iload rfl rfl rfl ?_
                        refine q_ishr rfl rfl (q_tn (z := 3) rfl ?_)
                        refine q_iconst rfl rfl ?_
                        refine q_iand rfl rfl (q_tn (z := 1) rfl ?_)
                        refine q_ifne rfl rfl (fun c1241 => absurd c1241 (by decide)) (fun c1241 => ?_)
                        refine q_aload_n rfl rfl rfl ?_
                        refine q_getf rfl rfl (by decide) rfl rfl ?_
                        refine q_iconst rfl rfl ?_
                        refine q_iload rfl rfl rfl ?_
                        refine q_imul rfl rfl (q_tn (z := 12) rfl ?_)
                        refine q_iload rfl rfl rfl ?_
                        refine q_bipush rfl rfl ?_
                        refine q_idiv rfl rfl (by decide) (q_tn (z := 2) rfl ?_)
                        refine q_iadd rfl rfl (q_tn (z := 14) rfl ?_)
                        refine q_iald rfl rfl (by decide) rfl (by decide) (q_tn (z := 1) rfl ?_)
                        refine q_iload rfl rfl rfl ?_
                        refine q_bipush rfl rfl ?_
                        refine q_irem rfl rfl (by decide) (q_tn (z := 7) rfl ?_)
                        refine q_ishr rfl rfl (q_tn (z := 0) rfl ?_)
                        refine q_iconst rfl rfl ?_
                        refine q_iand rfl rfl (q_tn (z := 0) rfl ?_)
                        refine q_iconst rfl rfl ?_
                        refine q_icne rfl rfl (fun c1242 => absurd c1242 (by decide)) (fun c1242 => ?_)
                        refine q_icc6 (z := 4) rfl rfl rfl rfl rfl ?_
                        refine q_icc7 (z := 4) rfl rfl rfl rfl rfl ?_
                        refine q_goto rfl ?_
                        refine q_iload rfl rfl rfl ?_
                        refine q_iconst rfl rfl ?_
                        refine q_icge rfl rfl (fun c1243 => absurd c1243 (by decide)) (fun c1243 => ?_)
                        refine q_iload_n rfl rfl rfl ?_
                        refine q_iload rfl rfl rfl ?_
                        refine q_ishr rfl rfl (q_tn (z := 1) rfl ?_)
                        refine q_iconst rfl rfl ?_
                        refine q_iand rfl rfl (q_tn (z := 1) rfl ?_)
                        refine q_ifne rfl rfl (fun c1244 => absurd c1244 (by decide)) (fun c1244 => ?_)
                        refine q_aload_n rfl rfl rfl ?_
                        refine q_getf rfl rfl (by decide) rfl rfl ?_
                        refine q_iconst rfl rfl ?_
                        refine q_iload rfl rfl rfl ?_
                        refine q_imul rfl rfl (q_tn (z := 16) rfl ?_)
                        refine q_iload rfl rfl rfl ?_
                        refine q_bipush rfl rfl ?_
                        refine q_idiv rfl rfl (by decide) (q_tn (z := 2) rfl ?_)
                        refine q_iadd rfl rfl (q_tn (z := 18) rfl ?_)
                        refine q_iald rfl rfl (by decide) rfl (by decide) (q_tn (z := 1) rfl ?_)
                        refine q_iload rfl rfl rfl ?_
                        refine q_bipush rfl rfl ?_
                        refine q_irem rfl rfl (by decide) (q_tn (z := 7) rfl ?_)
                        refine q_ishr rfl rfl (q_tn (z := 0) rfl ?_)
                        refine q_iconst rfl rfl ?_
                        refine q_iand rfl rfl (q_tn (z := 0) rfl ?_)
                        refine q_iconst rfl rfl ?_
                        refine q_icne rfl rfl (fun c1245 => absurd c1245 (by decide)) (fun c1245 => ?_)
                        refine q_icc6 (z := 5) rfl rfl rfl rfl rfl ?_
                        refine q_icc7 (z := 5) rfl rfl rfl rfl rfl ?_
                        refine q_goto rfl ?_
                        refine q_iload rfl rfl rfl ?_
                        refine q_iconst rfl rfl ?_
                        refine q_icge rfl rfl (fun c1246 => ?_) (fun c1246 => absurd (by decide) c1246)
                        refine q_iload rfl rfl rfl ?_
                        refine q_iload rfl rfl rfl ?_
                        refine q_icle rfl rfl (fun c1247 => ?_) (fun c1247 => absurd (by decide) c1247)
                        refine q_iload rfl rfl rfl ?_
                        refine q_ist7 rfl rfl rfl rfl ?_
                        refine q_aload_n rfl rfl rfl ?_
                        refine q_getf rfl rfl (by decide) rfl rfl ?_
                        refine q_iload rfl rfl rfl ?_
                        refine q_iald rfl rfl (by decide) ((FM_74 hM).trans (FW_74 S hW)) (by decide) (q_tn (z := (-2)) rfl ?_)
                        refine q_bipush rfl rfl ?_
                        refine q_icne rfl rfl (fun c1248 => ?_) (fun c1248 => absurd (by decide) c1248)
                        refine q_iload rfl rfl rfl ?_
                        refine q_iload_n rfl rfl rfl ?_
                        refine q_iclt rfl rfl (fun c1249 => absurd c1249 (by decide)) (fun c1249 => ?_)
                        refine q_goto rfl ?_
                        refine q_icc4 (z := 28) rfl rfl rfl rfl rfl ?_
                        refine q_goto rfl ?_
                        refine q_iload rfl rfl rfl ?_
                        refine q_bipush rfl rfl ?_
                        refine q_icge rfl rfl (fun c1250 => absurd c1250 (by decide)) (fun c1250 => ?_)
                        refine q_iconst rfl rfl ?_
                        refine q_ist5 rfl rfl rfl rfl ?_
                        refine q_iconst rfl rfl ?_
                        refine q_ist6 rfl rfl rfl rfl ?_
                        refine q_iconst rfl rfl ?_
                        refine q_ist7 rfl rfl rfl rfl ?_
                        refine q_iload rfl rfl rfl ?_
                        refine q_iconst rfl rfl ?_
                        refine q_icge rfl rfl (fun c1251 => absurd c1251 (by decide)) (fun c1251 => ?_)
                        refine q_iload_n rfl rfl rfl ?_
                        refine q_iload rfl rfl rfl ?_
                        refine q_ishr rfl rfl (q_tn (z := 31) rfl ?_)
                        refine q_iconst rfl rfl ?_
                        refine q_iand rfl rfl (q_tn (z := 1) rfl ?_)
                        refine q_ifne rfl rfl (fun c1252 => absurd c1252 (by decide)) (fun c1252 => ?_)
                        refine q_aload_n rfl rfl rfl ?_
                        refine q_getf rfl rfl (by decide) rfl rfl ?_
                        refine q_iconst rfl rfl ?_
                        refine q_iload rfl rfl rfl ?_
                        refine q_imul rfl rfl (q_tn (z := 0) rfl ?_)
                        refine q_iload rfl rfl rfl ?_
                        refine q_bipush rfl rfl ?_
                        refine q_idiv rfl rfl (by decide) (q_tn (z := 2) rfl ?_)
                        refine q_iadd rfl rfl (q_tn (z := 2) rfl ?_)
                        refine q_iald rfl rfl (by decide) rfl (by decide) (q_tn (z := 1) rfl ?_)
                        refine q_iload rfl rfl rfl ?_
                        refine q_bipush rfl rfl ?_
                        refine q_irem rfl rfl (by decide) (q_tn (z := 8) rfl ?_)
                        refine q_ishr rfl rfl (q_tn (z := 0) rfl ?_)
                        refine q_iconst rfl rfl ?_
                        refine q_iand rfl rfl (q_tn (z := 0) rfl ?_)
                        refine q_iconst rfl rfl ?_
                        refine q_icne rfl rfl (fun c1253 => absurd c1253 (by decide)) (fun c1253 => ?_)
                        refine q_icc6 (z := 1) rfl rfl rfl rfl rfl ?_
                        refine q_icc7 (z := 1) rfl rfl rfl rfl rfl ?_
                        refine q_goto rfl ?_
                        refine q_iload rfl rfl rfl ?_
                        refine q_iconst rfl rfl ?_
                        refine q_icge rfl rfl (fun c1254 => absurd c1254 (by decide)) (fun c1254 => ?_)
                        refine q_iload_n rfl rfl rfl ?_
                        refine q_iload rfl rfl rfl ?_
                        refine q_ishr rfl rfl (q_tn (z := 15) rfl ?_)
                        refine q_iconst rfl rfl ?_
                        refine q_iand rfl rfl (q_tn (z := 1) rfl ?_)
                        refine q_ifne rfl rfl (fun c1255 => absurd c1255 (by decide)) (fun c1255 => ?_)
                        refine q_aload_n rfl rfl rfl ?_
                        refine q_getf rfl rfl (by decide) rfl rfl ?_
                        refine q_iconst rfl rfl ?_
                        refine q_iload rfl rfl rfl ?_
                        refine q_imul rfl rfl (q_tn (z := 4) rfl ?_)
                        refine q_iload rfl rfl rfl ?_
                        refine q_bipush rfl rfl ?_
                        refine q_idiv rfl rfl (by decide) (q_tn (z := 2) rfl ?_)
                        refine q_iadd rfl rfl (q_tn (z := 6) rfl ?_)
                        refine q_iald rfl rfl (by decide) rfl (by decide) (q_tn (z := 1) rfl ?_)
                        refine q_iload rfl rfl rfl ?_
                        refine q_bipush rfl rfl ?_
                        refine q_irem rfl rfl (by decide) (q_tn (z := 8) rfl ?_)
                        refine q_ishr rfl rfl (q_tn (z := 0) rfl ?_)
                        refine q_iconst rfl rfl ?_
                        refine q_iand rfl rfl (q_tn (z := 0) rfl ?_)
                        refine q_iconst rfl rfl ?_
                        refine q_icne rfl rfl (fun c1256 => absurd c1256 (by decide)) (fun c1256 => ?_)
                        refine q_icc6 (z := 2) rfl rfl rfl rfl rfl ?_
                        refine q_icc7 (z := 2) rfl rfl rfl rfl rfl ?_
                        refine q_goto rfl ?_
                        refine q_iload rfl rfl rfl ?_
                        refine q_iconst rfl rfl ?_
                        refine q_icge rfl rfl (fun c1257 => absurd c1257 (by decide)) (fun c1257 => ?_)
                        refine q_iload_n rfl rfl rfl ?_
                        refine q_iload rfl rfl rfl ?_
                        refine q_ishr rfl rfl (q_tn (z := 7) rfl ?_)
                        refine q_iconst rfl rfl ?_
                        refine q_iand rfl rfl (q_tn (z := 1) rfl ?_)
                        refine q_ifne rfl rfl (fun c1258 => absurd c1258 (by decide)) (fun c1258 => ?_)
                        refine q_aload_n rfl rfl rfl ?_
                        refine q_getf rfl rfl (by decide) rfl rfl ?_
                        refine q_iconst rfl rfl ?_
                        refine q_iload rfl rfl rfl ?_
                        refine q_imul rfl rfl (q_tn (z := 8) rfl ?_)
                        refine q_iload rfl rfl rfl ?_
                        refine q_bipush rfl rfl ?_
                        refine q_idiv rfl rfl (by decide) (q_tn (z := 2) rfl ?_)
                        refine q_iadd rfl rfl (q_tn (z := 10) rfl ?_)
                        refine q_iald rfl rfl (by decide) rfl (by decide) (q_tn (z := 1) rfl ?_)
                        refine q_iload rfl rfl rfl ?_
                        refine q_bipush rfl rfl ?_
                        refine q_irem rfl rfl (by decide) (q_tn (z := 8) rfl ?_)
                        refine q_ishr rfl rfl (q_tn (z := 0) rfl ?_)
                        refine q_iconst rfl rfl ?_
                        refine q_iand rfl rfl (q_tn (z := 0) rfl ?_)
                        refine q_iconst rfl rfl ?_
                        refine q_icne rfl rfl (fun c1259 => absurd c1259 (by decide)) (fun c1259 => ?_)
                        refine q_icc6 (z := 3) rfl rfl rfl rfl rfl ?_
                        refine q_icc7 (z := 3) rfl rfl rfl rfl rfl ?_
                        refine q_goto rfl ?_
                        refine q_iload rfl rfl rfl ?_
                        refine q_iconst rfl rfl ?_
                        refine q_icge rfl rfl (fun c1260 => absurd c1260 (by decide)) (fun c1260 => ?_)
                        refine q_iload_n rfl rfl rfl ?_
                        refine q_iload rfl rfl rfl ?_
                        refine q_ishr rfl rfl (q_tn (z := 3) rfl ?_)
                        refine q_iconst rfl rfl ?_
                        refine q_iand rfl rfl (q_tn (z := 1) rfl ?_)
                        refine q_ifne rfl rfl (fun c1261 => absurd c1261 (by decide)) (fun c1261 => ?_)
                        refine q_aload_n rfl rfl rfl ?_
                        refine q_getf rfl rfl (by decide) rfl rfl ?_
                        refine q_iconst rfl rfl ?_
                        refine q_iload rfl rfl rfl ?_
                        refine q_imul rfl rfl (q_tn (z := 12) rfl ?_)
                        refine q_iload rfl rfl rfl ?_
                        refine q_bipush rfl rfl ?_
                        refine q_idiv rfl rfl (by decide) (q_tn (z := 2) rfl ?_)
                        refine q_iadd rfl rfl (q_tn (z := 14) rfl ?_)
                        refine q_iald rfl rfl (by decide) rfl (by decide) (q_tn (z := 1) rfl ?_)
                        refine q_iload rfl rfl rfl ?_
                        refine q_bipush rfl rfl ?_
                        refine q_irem rfl rfl (by decide) (q_tn (z := 8) rfl ?_)
                        refine q_ishr rfl rfl (q_tn (z := 0) rfl ?_)
                        refine q_iconst rfl rfl ?_
                        refine q_iand rfl rfl (q_tn (z := 0) rfl ?_)
                        refine q_iconst rfl rfl ?_
                        refine q_icne rfl rfl (fun c1262 => absurd c1262 (by decide)) (fun c1262 => ?_)
                        refine q_icc6 (z := 4) rfl rfl rfl rfl rfl ?_
                        refine q_icc7 (z := 4) rfl rfl rfl rfl rfl ?_
                        refine q_goto rfl ?_
                        refine q_iload rfl rfl rfl ?_
                        refine q_iconst rfl rfl ?_
                        refine q_icge rfl rfl (fun c1263 => absurd c1263 (by decide)) (fun c1263 => ?_)
                        refine q_iload_n rfl rfl rfl ?_
                        refine q_iload rfl rfl rfl ?_
                        refine q_ishr rfl rfl (q_tn (z := 1) rfl ?_)
                        refine q_iconst rfl rfl ?_
                        refine q_iand rfl rfl (q_tn (z := 1) rfl ?_)
                        refine q_ifne rfl rfl (fun c1264 => absurd c1264 (by decide)) (fun c1264 => ?_)
                        refine q_aload_n rfl rfl rfl ?_
                        refine q_getf rfl rfl (by decide) rfl rfl ?_
                        refine q_iconst rfl rfl ?_
                        refine q_iload rfl rfl rfl ?_
                        refine q_imul rfl rfl (q_tn (z := 16) rfl ?_)
                        refine q_iload rfl rfl rfl ?_
                        refine q_bipush rfl rfl ?_
                        refine q_idiv rfl rfl (by decide) (q_tn (z := 2) rfl ?_)
                        refine q_iadd rfl rfl (q_tn (z := 18) rfl ?_)
                        refine q_iald rfl rfl (by decide) rfl (by decide) (q_tn (z := 1) rfl ?_)
                        refine q_iload rfl rfl rfl ?_
                        refine q_bipush rfl rfl ?_
                        refine q_irem rfl rfl (by decide) (q_tn (z := 8) rfl ?_)
                        refine q_ishr rfl rfl (q_tn (z := 0) rfl ?_)
                        refine q_iconst rfl rfl ?_
                        refine q_iand rfl rfl (q_tn (z := 0) rfl ?_)
                        refine q_iconst rfl rfl ?_
                        refine q_icne rfl rfl (fun c1265 => absurd c1265 (by decide)) (fun c1265 => ?_)
                        refine q_icc6 (z := 5) rfl rfl rfl rfl rfl ?_
                        refine q_icc7 (z := 5) rfl rfl rfl rfl rfl ?_
                        refine q_goto rfl ?_
                        refine q_iload rfl rfl rfl ?_
                        refine q_iconst rfl rfl ?_
                        refine q_icge rfl rfl (fun c1266 => ?_) (fun c1266 => absurd (by decide) c1266)
                        refine q_iload rfl rfl rfl ?_
                        refine q_iload rfl rfl rfl ?_
                        refine q_icle rfl rfl (fun c1267 => ?_) (fun c1267 => absurd (by decide) c1267)
                        refine q_iload rfl rfl rfl ?_
                        refine q_ist7 rfl rfl rfl rfl ?_
                        refine q_aload_n rfl rfl rfl ?_
                        refine q_getf rfl rfl (by decide) rfl rfl ?_
                        refine q_iload rfl rfl rfl ?_
                        refine q_iald rfl rfl (by decide) ((FM_74 hM).trans (FW_74 S hW)) (by decide) (q_tn (z := (-2)) rfl ?_)
                        refine q_bipush rfl rfl ?_
                        refine q_icne rfl rfl (fun c1268 => ?_) (fun c1268 => absurd (by decide) c1268)
                        refine q_iload rfl rfl rfl ?_
                        refine q_iload_n rfl rfl rfl ?_
                        refine q_iclt rfl rfl (fun c1269 => absurd c1269 (by decide)) (fun c1269 => ?_)
                        refine q_goto rfl ?_
                        refine q_icc4 (z := 29) rfl rfl rfl rfl rfl ?_
                        refine q_goto rfl ?_
                        refine q_iload rfl rfl rfl ?_
                        refine q_bipush rfl rfl ?_
                        refine q_icge rfl rfl (fun c1270 => absurd c1270 (by decide)) (fun c1270 => ?_)
                        refine q_iconst rfl rfl ?_
                        refine q_ist5 rfl rfl rfl rfl ?_
                        refine q_iconst rfl rfl ?_
                        refine q_ist6 rfl rfl rfl rfl ?_
                        refine q_iconst rfl rfl ?_
                        refine q_ist7 rfl rfl rfl rfl ?_
                        refine q_iload rfl rfl rfl ?_
                        refine q_iconst rfl rfl ?_
                        refine q_icge rfl rfl (fun c1271 => absurd c1271 (by decide)) (fun c1271 => ?_)
                        refine q_iload_n rfl rfl rfl ?_
                        refine q_iload rfl rfl rfl ?_
                        refine q_ishr rfl rfl (q_tn (z := 31) rfl ?_)
                        refine q_iconst rfl rfl ?_
                        refine q_iand rfl rfl (q_tn (z := 1) rfl ?_)
                        refine q_ifne rfl rfl (fun c1272 => absurd c1272 (by decide)) (fun c1272 => ?_)
                        refine q_aload_n rfl rfl rfl ?_
                        refine q_getf rfl rfl (by decide) rfl rfl ?_
                        refine q_iconst rfl rfl ?_
                        refine q_iload rfl rfl rfl ?_
                        refine q_imul rfl rfl (q_tn (z := 0) rfl ?_)
                        refine q_iload rfl rfl rfl ?_
                        refine q_bipush rfl rfl ?_
                        refine q_idiv rfl rfl (by decide) (q_tn (z := 2) rfl ?_)
                        refine q_iadd rfl rfl (q_tn (z := 2) rfl ?_)
                        refine q_iald rfl rfl (by decide) rfl (by decide) (q_tn (z := 1) rfl ?_)
                        refine q_iload rfl rfl rfl ?_
                        refine q_bipush rfl rfl ?_
                        refine q_irem rfl rfl (by decide) (q_tn (z := 9) rfl ?_)
                        refine q_ishr rfl rfl (q_tn (z := 0) rfl ?_)
                        refine q_iconst rfl rfl ?_
                        refine q_iand rfl rfl (q_tn (z := 0) rfl ?_)
                        refine q_iconst rfl rfl ?_
                        refine q_icne rfl rfl (fun c1273 => absurd c1273 (by decide)) (fun c1273 => ?_)
                        refine q_icc6 (z := 1) rfl rfl rfl rfl rfl ?_
                        refine q_icc7 (z := 1) rfl rfl rfl rfl rfl ?_
                        refine q_goto rfl ?_
                        refine q_iload rfl rfl rfl ?_
                        refine q_iconst rfl rfl ?_
                        refine q_icge rfl rfl (fun c1274 => absurd c1274 (by decide)) (fun c1274 => ?_)
                        refine q_iload_n rfl rfl rfl ?_
                        refine q_iload rfl rfl rfl ?_
                        refine q_ishr rfl rfl (q_tn (z := 15) rfl ?_)
                        refine q_iconst rfl rfl ?_
                        refine q_iand rfl rfl (q_tn (z := 1) rfl ?_)
                        refine q_ifne rfl rfl (fun c1275 => absurd c1275 (by decide)) (fun c1275 => ?_)
                        refine q_aload_n rfl rfl rfl ?_
                        refine q_getf rfl rfl (by decide) rfl rfl ?_
                        refine q_iconst rfl rfl ?_
                        refine q_iload rfl rfl rfl ?_
                        refine q_imul rfl rfl (q_tn (z := 4) rfl ?_)
                        refine q_iload rfl rfl rfl ?_
                        refine q_bipush rfl rfl ?_
                        refine q_idiv rfl rfl (by decide) (q_tn (z := 2) rfl ?_)
                        refine q_iadd rfl rfl (q_tn (z := 6) rfl ?_)
                        refine q_iald rfl rfl (by decide) rfl (by decide) (q_tn (z := 1) rfl ?_)
                        refine q_iload rfl rfl rfl ?_
                        refine q_bipush rfl rfl ?_
                        refine q_irem rfl rfl (by decide) (q_tn (z := 9) rfl ?_)
                        refine q_ishr rfl rfl (q_tn (z := 0) rfl ?_)
                        refine q_iconst rfl rfl ?_
                        refine q_iand rfl rfl (q_tn (z := 0) rfl ?_)
                        refine q_iconst rfl rfl ?_
                        refine q_icne rfl rfl (fun c1276 => absurd c1276 (by decide)) (fun c1276 => ?_)
                        refine q_icc6 (z := 2) rfl rfl rfl rfl rfl ?_
                        refine q_icc7 (z := 2) rfl rfl rfl rfl rfl ?_
                        refine q_goto rfl ?_
                        refine q_iload rfl rfl rfl ?_
                        refine q_iconst rfl rfl ?_
                        refine q_icge rfl rfl (fun c1277 => absurd c1277 (by decide)) (fun c1277 => ?_)
                        refine q_iload_n rfl rfl rfl ?_
                        refine q_iload rfl rfl rfl ?_
                        refine q_ishr rfl rfl (q_tn (z := 7) rfl ?_)
                        refine q_iconst rfl rfl ?_
                        refine q_iand rfl rfl (q_tn (z := 1) rfl ?_)
                        refine q_ifne rfl rfl (fun c1278 => absurd c1278 (by decide)) (fun c1278 => ?_)
                        refine q_aload_n rfl rfl rfl ?_
                        refine q_getf rfl rfl (by decide) rfl rfl ?_
                        refine q_iconst rfl rfl ?_
                        refine q_iload rfl rfl rfl ?_
                        refine q_imul rfl rfl (q_tn (z := 8) rfl ?_)
                        refine q_iload rfl rfl rfl ?_
                        refine q_bipush rfl rfl ?_
                        refine q_idiv rfl rfl (by decide) (q_tn (z := 2) rfl ?_)
                        refine q_iadd rfl rfl (q_tn (z := 10) rfl ?_)
                        refine q_iald rfl rfl (by decide) rfl (by decide) (q_tn (z := 1) rfl ?_)
                        refine q_iload rfl rfl rfl ?_
                        refine q_bipush rfl rfl ?_
                        refine q_irem rfl rfl (by decide) (q_tn (z := 9) rfl ?_)
                        refine q_ishr rfl rfl (q_tn (z := 0) rfl ?_)
                        refine q_iconst rfl rfl ?_
                        refine q_iand rfl rfl (q_tn (z := 0) rfl ?_)
                        refine q_iconst rfl rfl ?_
                        refine q_icne rfl rfl (fun c1279 => absurd c1279 (by decide)) (fun c1279 => ?_)
                        refine q_icc6 (z := 3) rfl rfl rfl rfl rfl ?_
                        refine q_icc7 (z := 3) rfl rfl rfl rfl rfl ?_
                        refine q_goto rfl ?_
                        refine q_iload rfl rfl rfl ?_
                        refine q_iconst rfl rfl ?_
                        refine q_icge rfl rfl (fun c1280 => absurd c1280 (by decide)) (fun c1280 => ?_)
                        refine q_iload_n rfl rfl rfl ?_
                        refine q_iload rfl rfl rfl ?_
                        refine q_ishr rfl rfl (q_tn (z := 3) rfl ?_)
                        refine q_iconst rfl rfl ?_
                        refine q_iand rfl rfl (q_tn (z := 1) rfl ?_)
                        refine q_ifne rfl rfl (fun c1281 => absurd c1281 (by decide)) (fun c1281 => ?_)
                        refine q_aload_n rfl rfl rfl ?_
                        refine q_getf rfl rfl (by decide) rfl rfl ?_
                        refine q_iconst rfl rfl ?_
                        refine q_iload rfl rfl rfl ?_
                        refine q_imul rfl rfl (q_tn (z := 12) rfl ?_)
                        refine q_iload rfl rfl rfl ?_
                        refine q_bipush rfl rfl ?_
                        refine q_idiv rfl rfl (by decide) (q_tn (z := 2) rfl ?_)
                        refine q_iadd rfl rfl (q_tn (z := 14) rfl ?_)
                        refine q_iald rfl rfl (by decide) rfl (by decide) (q_tn (z := 1) rfl ?_)
                        refine q_iload rfl rfl rfl ?_
                        refine q_bipush rfl rfl ?_
                        refine q_irem rfl rfl (by decide) (q_tn (z := 9) rfl ?_)
                        refine q_ishr rfl rfl (q_tn (z := 0) rfl ?_)
                        refine q_iconst rfl rfl ?_
                        refine q_iand rfl rfl (q_tn (z := 0) rfl ?_)
                        refine q_iconst rfl rfl ?_
                        refine q_icne rfl rfl (fun c1282 => absurd c1282 (by decide)) (fun c1282 => ?_)
                        refine q_icc6 (z := 4) rfl rfl rfl rfl rfl ?_
                        refine q_icc7 (z := 4) rfl rfl rfl rfl rfl ?_
                        refine q_goto rfl ?_
                        refine q_iload rfl rfl rfl ?_
                        refine q_iconst rfl rfl ?_
                        refine q_icge rfl rfl (fun c1283 => absurd c1283 (by decide)) (fun c1283 => ?_)
                        refine q_iload_n rfl rfl rfl ?_
                        refine q_iload rfl rfl rfl ?_
                        refine q_ishr rfl rfl (q_tn (z := 1) rfl ?_)
                        refine q_iconst rfl rfl ?_
                        refine q_iand rfl rfl (q_tn (z := 1) rfl ?_)
                        refine q_ifne rfl rfl (fun c1284 => absurd c1284 (by decide)) (fun c1284 => ?_)
                        refine q_aload_n rfl rfl rfl ?_
                        refine q_getf rfl rfl (by decide) rfl rfl ?_
                        refine q_iconst rfl rfl ?_
                        refine q_iload rfl rfl rfl ?_
                        refine q_imul rfl rfl (q_tn (z := 16) rfl ?_)
                        refine q_iload rfl rfl rfl ?_
                        refine q_bipush rfl rfl ?_
                        refine q_idiv rfl rfl (by decide) (q_tn (z := 2) rfl ?_)
                        refine q_iadd rfl rfl (q_tn (z := 18) rfl ?_)
                        refine q_iald rfl rfl (by decide) rfl (by decide) (q_tn (z := 1) rfl ?_)
                        refine q_iload rfl rfl rfl ?_
                        refine q_bipush rfl rfl ?_
                        refine q_irem rfl rfl (by decide) (q_tn (z := 9) rfl ?_)
                        refine q_ishr rfl rfl (q_tn (z := 0) rfl ?_)
                        refine q_iconst rfl rfl ?_
                        refine q_iand rfl rfl (q_tn (z := 0) rfl ?_)
                        refine q_iconst rfl rfl ?_
                        refine q_icne rfl rfl (fun c1285 => absurd c1285 (by decide)) (fun c1285 => ?_)
                        refine q_icc6 (z := 5) rfl rfl rfl rfl rfl ?_
                        refine q_icc7 (z := 5) rfl rfl rfl rfl rfl ?_
                        refine q_goto rfl ?_
                        refine q_iload rfl rfl rfl ?_
                        refine q_iconst rfl rfl ?_
                        refine q_icge rfl rfl (fun c1286 => ?_) (fun c1286 => absurd (by decide) c1286)
                        refine q_iload rfl rfl rfl ?_
                        refine q_iload rfl rfl rfl ?_
                        refine q_icle rfl rfl (fun c1287 => ?_) (fun c1287 => absurd (by decide) c1287)
                        refine q_iload rfl rfl rfl ?_
                        refine q_ist7 rfl rfl rfl rfl ?_
                        refine q_aload_n rfl rfl rfl ?_
                        refine q_getf rfl rfl (by decide) rfl rfl ?_
                        refine q_iload rfl rfl rfl ?_
                        refine q_iald rfl rfl (by decide) ((FM_74 hM).trans (FW_74 S hW)) (by decide) (q_tn (z := (-2)) rfl ?_)
                        refine q_bipush rfl rfl ?_
                        refine q_icne rfl rfl (fun c1288 => ?_) (fun c1288 => absurd (by decide) c1288)
                        refine q_iload rfl rfl rfl ?_
                        refine q_iload_n rfl rfl rfl ?_
                        refine q_iclt rfl rfl (fun c1289 => absurd c1289 (by decide)) (fun c1289 => ?_)
                        refine q_goto rfl ?_
                        refine q_icc4 (z := 30) rfl rfl rfl rfl rfl ?_
                        refine q_goto rfl ?_
                        refine q_iload rfl rfl rfl ?_
                        refine q_bipush rfl rfl ?_
                        refine q_icge rfl rfl (fun c1290 => absurd c1290 (by decide)) (fun c1290 => ?_)
                        refine q_iconst rfl rfl ?_
                        refine q_ist5 rfl rfl rfl rfl ?_
                        refine q_iconst rfl rfl ?_
                        refine q_ist6 rfl rfl rfl rfl ?_
                        refine q_iconst rfl rfl ?_
                        refine q_ist7 rfl rfl rfl rfl ?_
                        refine q_iload rfl rfl rfl ?_
                        refine q_iconst rfl rfl ?_
                        refine q_icge rfl rfl (fun c1291 => absurd c1291 (by decide)) (fun c1291 => ?_)
                        refine q_iload_n rfl rfl rfl ?_
                        refine q_iload rfl rfl rfl ?_
                        refine q_ishr rfl rfl (q_tn (z := 31) rfl ?_)
                        refine q_iconst rfl rfl ?_
                        refine q_iand rfl rfl (q_tn (z := 1) rfl ?_)
                        refine q_ifne rfl rfl (fun c1292 => absurd c1292 (by decide)) (fun c1292 => ?_)
                        refine q_aload_n rfl rfl rfl ?_
                        refine q_getf rfl rfl (by decide) rfl rfl ?_
                        refine q_iconst rfl rfl ?_
                        refine q_iload rfl rfl rfl ?_
                        refine q_imul rfl rfl (q_tn (z := 0) rfl ?_)
                        refine q_iload rfl rfl rfl ?_
                        refine q_bipush rfl rfl ?_
                        refine q_idiv rfl rfl (by decide) (q_tn (z := 3) rfl ?_)
                        refine q_iadd rfl rfl (q_tn (z := 3) rfl ?_)
                        refine q_iald rfl rfl (by decide) rfl (by decide) (q_tn (z := 1) rfl ?_)
                        refine q_iload rfl rfl rfl ?_
                        refine q_bipush rfl rfl ?_
                        refine q_irem rfl rfl (by decide) (q_tn (z := 0) rfl ?_)
                        refine q_ishr rfl rfl (q_tn (z := 1) rfl ?_)
                        refine q_iconst rfl rfl ?_
                        refine q_iand rfl rfl (q_tn (z := 1) rfl ?_)
                        refine q_iconst rfl rfl ?_
                        refine q_icne rfl rfl (fun c1293 => ?_) (fun c1293 => absurd (by decide) c1293)
                        refine q_icc5 (z := 1) rfl rfl rfl rfl rfl ?_
                        refine q_goto rfl ?_
                        refine q_icc7 (z := 1) rfl rfl rfl rfl rfl ?_
                        refine q_goto rfl ?_
                        refine q_iload rfl rfl rfl ?_
                        refine q_iconst rfl rfl ?_
                        refine q_icge rfl rfl (fun c1294 => absurd c1294 (by decide)) (fun c1294 => ?_)
                        refine q_iload_n rfl rfl rfl ?_
                        refine q_iload rfl rfl rfl ?_
                        refine q_ishr rfl rfl (q_tn (z := 15) rfl ?_)
                        refine q_iconst rfl rfl ?_
                        refine q_iand rfl rfl (q_tn (z := 1) rfl ?_)
                        refine q_ifne rfl rfl (fun c1295 => absurd c1295 (by decide)) (fun c1295 => ?_)
                        refine q_aload_n rfl rfl rfl ?_
                        refine q_getf rfl rfl (by decide) rfl rfl ?_
                        refine q_iconst rfl rfl ?_
                        refine q_iload rfl rfl rfl ?_
                        refine q_imul rfl rfl (q_tn (z := 4) rfl ?_)
                        refine q_iload rfl rfl rfl ?_
                        refine q_bipush rfl rfl ?_
                        refine q_idiv rfl rfl (by decide) (q_tn (z := 3) rfl ?_)
                        refine q_iadd rfl rfl (q_tn (z := 7) rfl ?_)
                        refine q_iald rfl rfl (by decide) rfl (by decide) (q_tn (z := 1) rfl ?_)
                        refine q_iload rfl rfl rfl ?_
                        refine q_bipush rfl rfl ?_
                        refine q_irem rfl rfl (by decide) (q_tn (z := 0) rfl ?_)
                        refine q_ishr rfl rfl (q_tn (z := 1) rfl ?_)
                        refine q_iconst rfl rfl ?_
                        refine q_iand rfl rfl (q_tn (z := 1) rfl ?_)
                        refine q_iconst rfl rfl ?_
                        refine q_icne rfl rfl (fun c1296 => ?_) (fun c1296 => absurd (by decide) c1296)
                        refine q_icc5 (z := 2) rfl rfl rfl rfl rfl ?_
                        refine q_goto rfl ?_
                        refine q_icc7 (z := 2) rfl rfl rfl rfl rfl ?_
                        refine q_goto rfl ?_
                        refine q_iload rfl rfl rfl ?_
                        refine q_iconst rfl rfl ?_
                        refine q_icge rfl rfl (fun c1297 => absurd c1297 (by decide)) (fun c1297 => ?_)
                        refine q_iload_n rfl rfl rfl ?_
                        refine q_iload rfl rfl rfl ?_
                        refine q_ishr rfl rfl (q_tn (z := 7) rfl ?_)
                        refine q_iconst rfl rfl ?_
                        refine q_iand rfl rfl (q_tn (z := 1) rfl ?_)
                        refine q_ifne rfl rfl (fun c1298 => absurd c1298 (by decide)) (fun c1298 => ?_)
                        refine q_aload_n rfl rfl rfl ?_
                        refine q_getf rfl rfl (by decide) rfl rfl ?_
                        refine q_iconst rfl rfl ?_
                        refine q_iload rfl rfl rfl ?_
                        refine q_imul rfl rfl (q_tn (z := 8) rfl ?_)
                        refine q_iload rfl rfl rfl ?_
                        refine q_bipush rfl rfl ?_
                        refine q_idiv rfl rfl (by decide) (q_tn (z := 3) rfl ?_)
                        refine q_iadd rfl rfl (q_tn (z := 11) rfl ?_)
                        refine q_iald rfl rfl (by decide) rfl (by decide) (q_tn (z := 1) rfl ?_)
                        refine q_iload rfl rfl rfl ?_
                        refine q_bipush rfl rfl ?_
                        refine q_irem rfl rfl (by decide) (q_tn (z := 0) rfl ?_)
                        refine q_ishr rfl rfl (q_tn (z := 1) rfl ?_)
                        refine q_iconst rfl rfl ?_
                        refine q_iand rfl rfl (q_tn (z := 1) rfl ?_)
                        refine q_iconst rfl rfl ?_
                        refine q_icne rfl rfl (fun c1299 => ?_) (fun c1299 => absurd (by decide) c1299)
                        refine q_icc5 (z := 3) rfl rfl rfl rfl rfl ?_
                        refine q_goto rfl ?_
                        refine q_icc7 (z := 3) rfl rfl rfl rfl rfl ?_
                        refine q_goto rfl ?_
                        refine q_iload rfl rfl rfl ?_
                        refine q_iconst rfl rfl ?_
                        refine q_icge rfl rfl (fun c1300 => absurd c1300 (by decide)) (fun c1300 => ?_)
                        refine q_iload_n rfl rfl rfl ?_
                        refine q_iload rfl rfl rfl ?_
                        refine q_ishr rfl rfl (q_tn (z := 3) rfl ?_)
                        refine q_iconst rfl rfl ?_
                        refine q_iand rfl rfl (q_tn (z := 1) rfl ?_)
                        refine q_ifne rfl rfl (fun c1301 => absurd c1301 (by decide)) (fun c1301 => ?_)
                        refine q_aload_n rfl rfl rfl ?_
                        refine q_getf rfl rfl (by decide) rfl rfl ?_
                        refine q_iconst rfl rfl ?_
                        refine q_iload rfl rfl rfl ?_
                        refine q_imul rfl rfl (q_tn (z := 12) rfl ?_)
                        refine q_iload rfl rfl rfl ?_
                        refine q_bipush rfl rfl ?_
                        refine q_idiv rfl rfl (by decide) (q_tn (z := 3) rfl ?_)
                        refine q_iadd rfl rfl (q_tn (z := 15) rfl ?_)
                        refine q_iald rfl rfl (by decide) rfl (by decide) (q_tn (z := 1) rfl ?_)
                        refine q_iload rfl rfl rfl ?_
                        refine q_bipush rfl rfl ?_
                        refine q_irem rfl rfl (by decide) (q_tn (z := 0) rfl ?_)
                        refine q_ishr rfl rfl (q_tn (z := 1) rfl ?_)
                        refine q_iconst rfl rfl ?_
                        refine q_iand rfl rfl (q_tn (z := 1) rfl ?_)
                        refine q_iconst rfl rfl ?_
                        refine q_icne rfl rfl (fun c1302 => ?_) (fun c1302 => absurd (by decide) c1302)
                        refine q_icc5 (z := 4) rfl rfl rfl rfl rfl ?_
                        refine q_goto rfl ?_
                        refine q_icc7 (z := 4) rfl rfl rfl rfl rfl ?_
                        refine q_goto rfl ?_
                        refine q_iload rfl rfl rfl ?_
                        refine q_iconst rfl rfl ?_
                        refine q_icge rfl rfl (fun c1303 => absurd c1303 (by decide)) (fun c1303 => ?_)
                        refine q_iload_n rfl rfl rfl ?_
                        refine q_iload rfl rfl rfl ?_
                        refine q_ishr rfl rfl (q_tn (z := 1) rfl ?_)
                        refine q_iconst rfl rfl ?_
                        refine q_iand rfl rfl (q_tn (z := 1) rfl ?_)
                        refine q_ifne rfl rfl (fun c1304 => absurd c1304 (by decide)) (fun c1304 => ?_)
                        refine q_aload_n rfl rfl rfl ?_
                        refine q_getf rfl rfl (by decide) rfl rfl ?_
                        refine q_iconst rfl rfl ?_
                        refine q_iload rfl rfl rfl ?_
                        refine q_imul rfl rfl (q_tn (z := 16) rfl ?_)
                        refine q_iload rfl rfl rfl ?_
                        refine q_bipush rfl rfl ?_
                        refine q_idiv rfl rfl (by decide) (q_tn (z := 3) rfl ?_)
                        refine q_iadd rfl rfl (q_tn (z := 19) rfl ?_)
                        refine q_iald rfl rfl (by decide) rfl (by decide) (q_tn (z := 1) rfl ?_)
                        refine q_iload rfl rfl rfl ?_
                        refine q_bipush rfl rfl ?_
                        refine q_irem rfl rfl (by decide) (q_tn (z := 0) rfl ?_)
                        refine q_ishr rfl rfl (q_tn (z := 1) rfl ?_)
                        refine q_iconst rfl rfl ?_
                        refine q_iand rfl rfl (q_tn (z := 1) rfl ?_)
                        refine q_iconst rfl rfl ?_
                        refine q_icne rfl rfl (fun c1305 => ?_) (fun c1305 => absurd (by decide) c1305)
                        refine q_icc5 (z := 5) rfl rfl rfl rfl rfl ?_
                        refine q_goto rfl ?_
                        refine q_icc7 (z := 5) rfl rfl rfl rfl rfl ?_
                        refine q_goto rfl ?_
                        refine q_iload rfl rfl rfl ?_
                        refine q_iconst rfl rfl ?_
                        refine q_icge rfl rfl (fun c1306 => ?_) (fun c1306 => absurd (by decide) c1306)
                        refine q_iload rfl rfl rfl ?_
                        refine q_iload rfl rfl rfl ?_
                        refine q_icle rfl rfl (fun c1307 => absurd c1307 (by decide)) (fun c1307 => ?_)
                        refine q_iload rfl rfl rfl ?_
                        refine q_goto rfl ?_
                        refine q_ist7 rfl rfl rfl rfl ?_
                        refine q_aload_n rfl rfl rfl ?_
                        refine q_getf rfl rfl (by decide) rfl rfl ?_
                        refine q_iload rfl rfl rfl ?_
                        refine q_iald rfl rfl (by decide) ((FM_74 hM).trans (FW_74 S hW)) (by decide) (q_tn (z := (-2)) rfl ?_)
                        refine q_bipush rfl rfl ?_
                        refine q_icne rfl rfl (fun c1308 => ?_) (fun c1308 => absurd (by decide) c1308)
                        refine q_iload rfl rfl rfl ?_
                        refine q_iload_n rfl rfl rfl ?_
                        refine q_iclt rfl rfl (fun c1309 => absurd c1309 (by decide)) (fun c1309 => ?_)
                        refine q_goto rfl ?_
                        refine q_icc4 (z := 31) rfl rfl rfl rfl rfl ?_
                        refine q_goto rfl ?_
                        refine q_iload rfl rfl rfl ?_
                        refine q_bipush rfl rfl ?_
                        refine q_icge rfl rfl (fun c1310 => absurd c1310 (by decide)) (fun c1310 => ?_)
                        refine q_iconst rfl rfl ?_
                        refine q_ist5 rfl rfl rfl rfl ?_
                        refine q_iconst rfl rfl ?_
                        refine q_ist6 rfl rfl rfl rfl ?_
                        refine q_iconst rfl rfl ?_
                        refine q_ist7 rfl rfl rfl rfl ?_
                        refine q_iload rfl rfl rfl ?_
                        refine q_iconst rfl rfl ?_
                        refine q_icge rfl rfl (fun c1311 => absurd c1311 (by decide)) (fun c1311 => ?_)
                        refine q_iload_n rfl rfl rfl ?_
                        refine q_iload rfl rfl rfl ?_
                        refine q_ishr rfl rfl (q_tn (z := 31) rfl ?_)
                        refine q_iconst rfl rfl ?_
                        refine q_iand rfl rfl (q_tn (z := 1) rfl ?_)
                        refine q_ifne rfl rfl (fun c1312 => absurd c1312 (by decide)) (fun c1312 => ?_)
                        refine q_aload_n rfl rfl rfl ?_
                        refine q_getf rfl rfl (by decide) rfl rfl ?_
                        refine q_iconst rfl rfl ?_
                        refine q_iload rfl rfl rfl ?_
                        refine q_imul rfl rfl (q_tn (z := 0) rfl ?_)
                        refine q_iload rfl rfl rfl ?_
                        refine q_bipush rfl rfl ?_
                        refine q_idiv rfl rfl (by decide) (q_tn (z := 3) rfl ?_)
                        refine q_iadd rfl rfl (q_tn (z := 3) rfl ?_)
                        refine q_iald rfl rfl (by decide) rfl (by decide) (q_tn (z := 1) rfl ?_)
                        refine q_iload rfl rfl rfl ?_
                        refine q_bipush rfl rfl ?_
                        refine q_irem rfl rfl (by decide) (q_tn (z := 1) rfl ?_)
                        refine q_ishr rfl rfl (q_tn (z := 0) rfl ?_)
                        refine q_iconst rfl rfl ?_
                        as_aux_lemma =>
                          refine q_iand rfl rfl (q_tn (z := 0) rfl ?_)
                          refine q_iconst rfl rfl ?_
                          refine q_icne rfl rfl (fun c1313 => absurd c1313 (by decide)) (fun c1313 => ?_)
                          refine q_icc6 (z := 1) rfl rfl rfl rfl rfl ?_
                          refine q_icc7 (z := 1) rfl rfl rfl rfl rfl ?_
                          refine q_goto rfl ?_
                          refine q_iload rfl rfl rfl ?_
                          refine q_iconst rfl rfl ?_
                          refine q_icge rfl rfl (fun c1314 => absurd c1314 (by decide)) (fun c1314 => ?_)
                          refine q_iload_n rfl rfl rfl ?_
                          refine q_iload rfl rfl rfl ?_
                          refine q_ishr rfl rfl (q_tn (z := 15) rfl ?_)
                          refine q_iconst rfl rfl ?_
                          refine q_iand rfl rfl (q_tn (z := 1) rfl ?_)
                          refine q_ifne rfl rfl (fun c1315 => absurd c1315 (by decide)) (fun c1315 => ?_)
                          refine q_aload_n rfl rfl rfl ?_
                          refine q_getf rfl rfl (by decide) rfl rfl ?_
                          refine q_iconst rfl rfl ?_
                          refine q_iload rfl rfl rfl ?_
                          refine q_imul rfl rfl (q_tn (z := 4) rfl ?_)
                          refine q_iload rfl rfl rfl ?_
                          refine q_bipush rfl rfl ?_
                          refine q_idiv rfl rfl (by decide) (q_tn (z := 3) rfl ?_)
                          refine q_iadd rfl rfl (q_tn (z := 7) rfl ?_)
                          refine q_iald rfl rfl (by decide) rfl (by decide) (q_tn (z := 1) rfl ?_)
                          refine q_iload rfl rfl rfl ?_
                          refine q_bipush rfl rfl ?_
                          refine q_irem rfl rfl (by decide) (q_tn (z := 1) rfl ?_)
                          refine q_ishr rfl rfl (q_tn (z := 0) rfl ?_)
                          refine q_iconst rfl rfl ?_
                          refine q_iand rfl rfl (q_tn (z := 0) rfl ?_)
                          refine q_iconst rfl rfl ?_
                          refine q_icne rfl rfl (fun c1316 => absurd c1316 (by decide)) (fun c1316 => ?_)
                          refine q_icc6 (z := 2) rfl rfl rfl rfl rfl ?_
                          refine q_icc7 (z := 2) rfl rfl rfl rfl rfl ?_
                          refine q_goto rfl ?_
                          refine q_iload rfl rfl rfl ?_
                          refine q_iconst rfl rfl ?_
                          refine q_icge rfl rfl (fun c1317 => absurd c1317 (by decide)) (fun c1317 => ?_)
                          refine q_iload_n rfl rfl rfl ?_
                          refine q_iload rfl rfl rfl ?_
                          refine q_ishr rfl rfl (q_tn (z := 7) rfl ?_)
                          refine q_iconst rfl rfl ?_
                          refine q_iand rfl rfl (q_tn (z := 1) rfl ?_)
                          refine q_ifne rfl rfl (fun c1318 => absurd c1318 (by decide)) (fun c1318 => ?_)
                          refine q_aload_n rfl rfl rfl ?_
                          refine q_getf rfl rfl (by decide) rfl rfl ?_
                          refine q_iconst rfl rfl ?_
                          refine q_iload rfl rfl rfl ?_
                          refine q_imul rfl rfl (q_tn (z := 8) rfl ?_)
                          refine q_iload rfl rfl rfl ?_
                          refine q_bipush rfl rfl ?_
                          refine q_idiv rfl rfl (by decide) (q_tn (z := 3) rfl ?_)
                          refine q_iadd rfl rfl (q_tn (z := 11) rfl ?_)
                          refine q_iald rfl rfl (by decide) rfl (by decide) (q_tn (z := 1) rfl ?_)
                          refine q_iload rfl rfl rfl ?_
                          refine q_bipush rfl rfl ?_
                          refine q_irem rfl rfl (by decide) (q_tn (z := 1) rfl ?_)
                          refine q_ishr rfl rfl (q_tn (z := 0) rfl ?_)
                          refine q_iconst rfl rfl ?_
                          refine q_iand rfl rfl (q_tn (z := 0) rfl ?_)
                          refine q_iconst rfl rfl ?_
                          refine q_icne rfl rfl (fun c1319 => absurd c1319 (by decide)) (fun c1319 => ?_)
                          refine q_icc6 (z := 3) rfl rfl rfl rfl rfl ?_
                          refine q_icc7 (z := 3) rfl rfl rfl rfl rfl ?_
                          refine q_goto rfl ?_
                          refine q_iload rfl rfl rfl ?_
                          refine q_iconst rfl rfl ?_
                          refine q_icge rfl rfl (fun c1320 => absurd c1320 (by decide)) (fun c1320 => ?_)
                          refine q_iload_n rfl rfl rfl ?_
                          refine q_iload rfl rfl rfl ?_
                          refine q_ishr rfl rfl (q_tn (z := 3) rfl ?_)
                          refine q_iconst rfl rfl ?_
                          refine q_iand rfl rfl (q_tn (z := 1) rfl ?_)
                          refine q_ifne rfl rfl (fun c1321 => absurd c1321 (by decide)) (fun c1321 => ?_)
                          refine q_aload_n rfl rfl rfl ?_
                          refine q_getf rfl rfl (by decide) rfl rfl ?_
                          refine q_iconst rfl rfl ?_
                          refine q_iload rfl rfl rfl ?_
                          refine q_imul rfl rfl (q_tn (z := 12) rfl ?_)
                          refine q_iload rfl rfl rfl ?_
                          refine q_bipush rfl rfl ?_
                          refine q_idiv rfl rfl (by decide) (q_tn (z := 3) rfl ?_)
                          refine q_iadd rfl rfl (q_tn (z := 15) rfl ?_)
                          refine q_iald rfl rfl (by decide) rfl (by decide) (q_tn (z := 1) rfl ?_)
                          refine q_iload rfl rfl rfl ?_
                          refine q_bipush rfl rfl ?_
                          refine q_irem rfl rfl (by decide) (q_tn (z := 1) rfl ?_)
                          refine q_ishr rfl rfl (q_tn (z := 0) rfl ?_)
                          refine q_iconst rfl rfl ?_
                          refine q_iand rfl rfl (q_tn (z := 0) rfl ?_)
                          refine q_iconst rfl rfl ?_
                          refine q_icne rfl rfl (fun c1322 => absurd c1322 (by decide)) (fun c1322 => ?_)
                          refine q_icc6 (z := 4) rfl rfl rfl rfl rfl ?_
                          refine q_icc7 (z := 4) rfl rfl rfl rfl rfl ?_
                          refine q_goto rfl ?_
                          refine q_iload rfl rfl rfl ?_
                          refine q_iconst rfl rfl ?_
                          refine q_icge rfl rfl (fun c1323 => absurd c1323 (by decide)) (fun c1323 => ?_)
                          refine q_iload_n rfl rfl rfl ?_
                          refine q_iload rfl rfl rfl ?_
                          refine q_ishr rfl rfl (q_tn (z := 1) rfl ?_)
                          refine q_iconst rfl rfl ?_
                          refine q_iand rfl rfl (q_tn (z := 1) rfl ?_)
                          refine q_ifne rfl rfl (fun c1324 => absurd c1324 (by decide)) (fun c1324 => ?_)
                          refine q_aload_n rfl rfl rfl ?_
                          refine q_getf rfl rfl (by decide) rfl rfl ?_
                          refine q_iconst rfl rfl ?_
                          refine q_iload rfl rfl rfl ?_
                          refine q_imul rfl rfl (q_tn (z := 16) rfl ?_)
                          refine q_iload rfl rfl rfl ?_
                          refine q_bipush rfl rfl ?_
                          refine q_idiv rfl rfl (by decide) (q_tn (z := 3) rfl ?_)
                          refine q_iadd rfl rfl (q_tn (z := 19) rfl ?_)
                          refine q_iald rfl rfl (by decide) rfl (by decide) (q_tn (z := 1) rfl ?_)
                          refine q_iload rfl rfl rfl ?_
                          refine q_bipush rfl rfl ?_
                          refine q_irem rfl rfl (by decide) (q_tn (z := 1) rfl ?_)
                          refine q_ishr rfl rfl (q_tn (z := 0) rfl ?_)
                          refine q_iconst rfl rfl ?_
                          refine q_iand rfl rfl (q_tn (z := 0) rfl ?_)
                          refine q_iconst rfl rfl ?_
                          refine q_icne rfl rfl (fun c1325 => absurd c1325 (by decide)) (fun c1325 => ?_)
                          refine q_icc6 (z := 5) rfl rfl rfl rfl rfl ?_
                          refine q_icc7 (z := 5) rfl rfl rfl rfl rfl ?_
                          refine q_goto rfl ?_
                          refine q_iload rfl rfl rfl ?_
                          refine q_iconst rfl rfl ?_
                          refine q_icge rfl rfl (fun c1326 => ?_) (fun c1326 => absurd (by decide) c1326)
                          refine q_iload rfl rfl rfl ?_
                          refine q_iload rfl rfl rfl ?_
                          refine q_icle rfl rfl (fun c1327 => ?_) (fun c1327 => absurd (by decide) c1327)
                          refine q_iload rfl rfl rfl ?_
                          refine q_ist7 rfl rfl rfl rfl ?_
                          refine q_aload_n rfl rfl rfl ?_
                          refine q_getf rfl rfl (by decide) rfl rfl ?_
                          refine q_iload rfl rfl rfl ?_
                          refine q_iald rfl rfl (by decide) ((FM_74 hM).trans (FW_74 S hW)) (by decide) (q_tn (z := (-2)) rfl ?_)
                          refine q_bipush rfl rfl ?_
                          refine q_icne rfl rfl (fun c1328 => ?_) (fun c1328 => absurd (by decide) c1328)
                          refine q_iload rfl rfl rfl ?_
                          refine q_iload_n rfl rfl rfl ?_
                          refine q_iclt rfl rfl (fun c1329 => absurd c1329 (by decide)) (fun c1329 => ?_)
                          refine q_goto rfl ?_
                          refine q_icc4 (z := 32) rfl rfl rfl rfl rfl ?_
                          refine q_goto rfl ?_
                          refine q_iload rfl rfl rfl ?_
                          refine q_bipush rfl rfl ?_
                          refine q_icge rfl rfl (fun c1330 => absurd c1330 (by decide)) (fun c1330 => ?_)
                          refine q_iconst rfl rfl ?_
                          refine q_ist5 rfl rfl rfl rfl ?_
                          refine q_iconst rfl rfl ?_
                          refine q_ist6 rfl rfl rfl rfl ?_
                          refine q_iconst rfl rfl ?_
                          refine q_ist7 rfl rfl rfl rfl ?_
                          refine q_iload rfl rfl rfl ?_
                          refine q_iconst rfl rfl ?_
                          refine q_icge rfl rfl (fun c1331 => absurd c1331 (by decide)) (fun c1331 => ?_)
                          refine q_iload_n rfl rfl rfl ?_
                          refine q_iload rfl rfl rfl ?_
                          refine q_ishr rfl rfl (q_tn (z := 31) rfl ?_)
                          refine q_iconst rfl rfl ?_
                          refine q_iand rfl rfl (q_tn (z := 1) rfl ?_)
                          refine q_ifne rfl rfl (fun c1332 => absurd c1332 (by decide)) (fun c1332 => ?_)
                          refine q_aload_n rfl rfl rfl ?_
                          refine q_getf rfl rfl (by decide) rfl rfl ?_
                          refine q_iconst rfl rfl ?_
                          refine q_iload rfl rfl rfl ?_
                          refine q_imul rfl rfl (q_tn (z := 0) rfl ?_)
                          refine q_iload rfl rfl rfl ?_
                          refine q_bipush rfl rfl ?_
                          refine q_idiv rfl rfl (by decide) (q_tn (z := 3) rfl ?_)
                          refine q_iadd rfl rfl (q_tn (z := 3) rfl ?_)
                          refine q_iald rfl rfl (by decide) rfl (by decide) (q_tn (z := 1) rfl ?_)
                          refine q_iload rfl rfl rfl ?_
                          refine q_bipush rfl rfl ?_
                          refine q_irem rfl rfl (by decide) (q_tn (z := 2) rfl ?_)
                          refine q_ishr rfl rfl (q_tn (z := 0) rfl ?_)
                          refine q_iconst rfl rfl ?_
                          refine q_iand rfl rfl (q_tn (z := 0) rfl ?_)
                          refine q_iconst rfl rfl ?_
                          refine q_icne rfl rfl (fun c1333 => absurd c1333 (by decide)) (fun c1333 => ?_)
                          refine q_icc6 (z := 1) rfl rfl rfl rfl rfl ?_
                          refine q_icc7 (z := 1) rfl rfl rfl rfl rfl ?_
                          refine q_goto rfl ?_
                          refine q_iload rfl rfl rfl ?_
                          refine q_iconst rfl rfl ?_
                          refine q_icge rfl rfl (fun c1334 => absurd c1334 (by decide)) (fun c1334 => ?_)
                          refine q_iload_n rfl rfl rfl ?_
                          refine q_iload rfl rfl rfl ?_
                          refine q_ishr rfl rfl (q_tn (z := 15) rfl ?_)
                          refine q_iconst rfl rfl ?_
                          refine q_iand rfl rfl (q_tn (z := 1) rfl ?_)
                          refine q_ifne rfl rfl (fun c1335 => absurd c1335 (by decide)) (fun c1335 => ?_)
                          refine q_aload_n rfl rfl rfl ?_
                          refine q_getf rfl rfl (by decide) rfl rfl ?_
                          refine q_iconst rfl rfl ?_
                          refine q_iload rfl rfl rfl ?_
                          refine q_imul rfl rfl (q_tn (z := 4) rfl ?_)
                          refine q_iload rfl rfl rfl ?_
                          refine q_bipush rfl rfl ?_
                          refine q_idiv rfl rfl (by decide) (q_tn (z := 3) rfl ?_)
                          refine q_iadd rfl rfl (q_tn (z := 7) rfl ?_)
                          refine q_iald rfl rfl (by decide) rfl (by decide) (q_tn (z := 1) rfl ?_)
                          refine q_iload rfl rfl rfl ?_
                          refine q_bipush rfl rfl ?_
                          refine q_irem rfl rfl (by decide) (q_tn (z := 2) rfl ?_)
                          refine q_ishr rfl rfl (q_tn (z := 0) rfl ?_)
                          refine q_iconst rfl rfl ?_
                          refine q_iand rfl rfl (q_tn (z := 0) rfl ?_)
                          refine q_iconst rfl rfl ?_
                          refine q_icne rfl rfl (fun c1336 => absurd c1336 (by decide)) (fun c1336 => ?_)
                          refine q_icc6 (z := 2) rfl rfl rfl rfl rfl ?_
                          refine q_icc7 (z := 2) rfl rfl rfl rfl rfl ?_
                          refine q_goto rfl ?_
                          refine q_iload rfl rfl rfl ?_
                          refine q_iconst rfl rfl ?_
                          refine q_icge rfl rfl (fun c1337 => absurd c1337 (by decide)) (fun c1337 => ?_)
                          refine q_iload_n rfl rfl rfl ?_
                          refine q_iload rfl rfl rfl ?_
                          refine q_ishr rfl rfl (q_tn (z := 7) rfl ?_)
                          refine q_iconst rfl rfl ?_
                          refine q_iand rfl rfl (q_tn (z := 1) rfl ?_)
                          refine q_ifne rfl rfl (fun c1338 => absurd c1338 (by decide)) (fun c1338 => ?_)
                          refine q_aload_n rfl rfl rfl ?_
                          refine q_getf rfl rfl (by decide) rfl rfl ?_
                          refine q_iconst rfl rfl ?_
                          refine q_iload rfl rfl rfl ?_
                          refine q_imul rfl rfl (q_tn (z := 8) rfl ?_)
                          refine q_iload rfl rfl rfl ?_
                          refine q_bipush rfl rfl ?_
                          refine q_idiv rfl rfl (by decide) (q_tn (z := 3) rfl ?_)
                          refine q_iadd rfl rfl (q_tn (z := 11) rfl ?_)
                          refine q_iald rfl rfl (by decide) rfl (by decide) (q_tn (z := 1) rfl ?_)
                          refine q_iload rfl rfl rfl ?_
                          refine q_bipush rfl rfl ?_
                          refine q_irem rfl rfl (by decide) (q_tn (z := 2) rfl ?_)
                          refine q_ishr rfl rfl (q_tn (z := 0) rfl ?_)
                          refine q_iconst rfl rfl ?_
                          refine q_iand rfl rfl (q_tn (z := 0) rfl ?_)
                          refine q_iconst rfl rfl ?_
                          refine q_icne rfl rfl (fun c1339 => absurd c1339 (by decide)) (fun c1339 => ?_)
                          refine q_icc6 (z := 3) rfl rfl rfl rfl rfl ?_
                          refine q_icc7 (z := 3) rfl rfl rfl rfl rfl ?_
                          refine q_goto rfl ?_
                          refine q_iload rfl rfl rfl ?_
                          refine q_iconst rfl rfl ?_
                          refine q_icge rfl rfl (fun c1340 => absurd c1340 (by decide)) (fun c1340 => ?_)
                          refine q_iload_n rfl rfl rfl ?_
                          refine q_iload rfl rfl rfl ?_
                          refine q_ishr rfl rfl (q_tn (z := 3) rfl ?_)
                          refine q_iconst rfl rfl ?_
                          refine q_iand rfl rfl (q_tn (z := 1) rfl ?_)
                          refine q_ifne rfl rfl (fun c1341 => absurd c1341 (by decide)) (fun c1341 => ?_)
                          refine q_aload_n rfl rfl rfl ?_
                          refine q_getf rfl rfl (by decide) rfl rfl ?_
                          refine q_iconst rfl rfl ?_
                          refine q_iload rfl rfl rfl ?_
                          refine q_imul rfl rfl (q_tn (z := 12) rfl ?_)
                          refine q_iload rfl rfl rfl ?_
                          refine q_bipush rfl rfl ?_
                          refine q_idiv rfl rfl (by decide) (q_tn (z := 3) rfl ?_)
                          refine q_iadd rfl rfl (q_tn (z := 15) rfl ?_)
                          refine q_iald rfl rfl (by decide) rfl (by decide) (q_tn (z := 1) rfl ?_)
                          refine q_iload rfl rfl rfl ?_
                          refine q_bipush rfl rfl ?_
                          refine q_irem rfl rfl (by decide) (q_tn (z := 2) rfl ?_)
                          refine q_ishr rfl rfl (q_tn (z := 0) rfl ?_)
                          refine q_iconst rfl rfl ?_
                          refine q_iand rfl rfl (q_tn (z := 0) rfl ?_)
                          refine q_iconst rfl rfl ?_
                          refine q_icne rfl rfl (fun c1342 => absurd c1342 (by decide)) (fun c1342 => ?_)
                          refine q_icc6 (z := 4) rfl rfl rfl rfl rfl ?_
                          refine q_icc7 (z := 4) rfl rfl rfl rfl rfl ?_
                          refine q_goto rfl ?_
                          refine q_iload rfl rfl rfl ?_
                          refine q_iconst rfl rfl ?_
                          refine q_icge rfl rfl (fun c1343 => absurd c1343 (by decide)) (fun c1343 => ?_)
                          refine q_iload_n rfl rfl rfl ?_
                          refine q_iload rfl rfl rfl ?_
                          refine q_ishr rfl rfl (q_tn (z := 1) rfl ?_)
                          refine q_iconst rfl rfl ?_
                          refine q_iand rfl rfl (q_tn (z := 1) rfl ?_)
                          refine q_ifne rfl rfl (fun c1344 => absurd c1344 (by decide)) (fun c1344 => ?_)
                          refine q_aload_n rfl rfl rfl ?_
                          refine q_getf rfl rfl (by decide) rfl rfl ?_
                          refine q_iconst rfl rfl ?_
                          refine q_iload rfl rfl rfl ?_
                          refine q_imul rfl rfl (q_tn (z := 16) rfl ?_)
                          refine q_iload rfl rfl rfl ?_
                          refine q_bipush rfl rfl ?_
                          refine q_idiv rfl rfl (by decide) (q_tn (z := 3) rfl ?_)
                          refine q_iadd rfl rfl (q_tn (z := 19) rfl ?_)
                          refine q_iald rfl rfl (by decide) rfl (by decide) (q_tn (z := 1) rfl ?_)
                          refine q_iload rfl rfl rfl ?_
                          refine q_bipush rfl rfl ?_
                          refine q_irem rfl rfl (by decide) (q_tn (z := 2) rfl ?_)
                          refine q_ishr rfl rfl (q_tn (z := 0) rfl ?_)
                          refine q_iconst rfl rfl ?_
                          refine q_iand rfl rfl (q_tn (z := 0) rfl ?_)
                          refine q_iconst rfl rfl ?_
                          refine q_icne rfl rfl (fun c1345 => absurd c1345 (by decide)) (fun c1345 => ?_)
                          refine q_icc6 (z := 5) rfl rfl rfl rfl rfl ?_
                          refine q_icc7 (z := 5) rfl rfl rfl rfl rfl ?_
                          refine q_goto rfl ?_
                          refine q_iload rfl rfl rfl ?_
                          refine q_iconst rfl rfl ?_
                          refine q_icge rfl rfl (fun c1346 => ?_) (fun c1346 => absurd (by decide) c1346)
                          refine q_iload rfl rfl rfl ?_
                          refine q_iload rfl rfl rfl ?_
                          refine q_icle rfl rfl (fun c1347 => ?_) (fun c1347 => absurd (by decide) c1347)
                          refine q_iload rfl rfl rfl ?_
                          refine q_ist7 rfl rfl rfl rfl ?_
                          refine q_aload_n rfl rfl rfl ?_
                          refine q_getf rfl rfl (by decide) rfl rfl ?_
                          refine q_iload rfl rfl rfl ?_
                          refine q_iald rfl rfl (by decide) ((FM_74 hM).trans (FW_74 S hW)) (by decide) (q_tn (z := (-2)) rfl ?_)
                          refine q_bipush rfl rfl ?_
                          refine q_icne rfl rfl (fun c1348 => ?_) (fun c1348 => absurd (by decide) c1348)
                          refine q_iload rfl rfl rfl ?_
                          refine q_iload_n rfl rfl rfl ?_
                          refine q_iclt rfl rfl (fun c1349 => absurd c1349 (by decide)) (fun c1349 => ?_)
                          refine q_goto rfl ?_
                          refine q_icc4 (z := 33) rfl rfl rfl rfl rfl ?_
                          refine q_goto rfl ?_
                          refine q_iload rfl rfl rfl ?_
                          refine q_bipush rfl rfl ?_
                          refine q_icge rfl rfl (fun c1350 => absurd c1350 (by decide)) (fun c1350 => ?_)
                          refine q_iconst rfl rfl ?_
                          refine q_ist5 rfl rfl rfl rfl ?_
                          refine q_iconst rfl rfl ?_
                          refine q_ist6 rfl rfl rfl rfl ?_
                          refine q_iconst rfl rfl ?_
                          refine q_ist7 rfl rfl rfl rfl ?_
                          refine q_iload rfl rfl rfl ?_
                          refine q_iconst rfl rfl ?_
                          refine q_icge rfl rfl (fun c1351 => absurd c1351 (by decide)) (fun c1351 => ?_)
                          refine q_iload_n rfl rfl rfl ?_
                          refine q_iload rfl rfl rfl ?_
                          refine q_ishr rfl rfl (q_tn (z := 31) rfl ?_)
                          refine q_iconst rfl rfl ?_
                          refine q_iand rfl rfl (q_tn (z := 1) rfl ?_)
                          refine q_ifne rfl rfl (fun c1352 => absurd c1352 (by decide)) (fun c1352 => ?_)
                          refine q_aload_n rfl rfl rfl ?_
                          refine q_getf rfl rfl (by decide) rfl rfl ?_
                          refine q_iconst rfl rfl ?_
                          refine q_iload rfl rfl rfl ?_
                          refine q_imul rfl rfl (q_tn (z := 0) rfl ?_)
                          refine q_iload rfl rfl rfl ?_
                          refine q_bipush rfl rfl ?_
                          refine q_idiv rfl rfl (by decide) (q_tn (z := 3) rfl ?_)
                          refine q_iadd rfl rfl (q_tn (z := 3) rfl ?_)
                          refine q_iald rfl rfl (by decide) rfl (by decide) (q_tn (z := 1) rfl ?_)
                          refine q_iload rfl rfl rfl ?_
                          refine q_bipush rfl rfl ?_
                          refine q_irem rfl rfl (by decide) (q_tn (z := 3) rfl ?_)
                          refine q_ishr rfl rfl (q_tn (z := 0) rfl ?_)
                          refine q_iconst rfl rfl ?_
                          refine q_iand rfl rfl (q_tn (z := 0) rfl ?_)
                          refine q_iconst rfl rfl ?_
                          refine q_icne rfl rfl (fun c1353 => absurd c1353 (by decide)) (fun c1353 => ?_)
                          refine q_icc6 (z := 1) rfl rfl rfl rfl rfl ?_
                          refine q_icc7 (z := 1) rfl rfl rfl rfl rfl ?_
                          refine q_goto rfl ?_
                          refine q_iload rfl rfl rfl ?_
                          refine q_iconst rfl rfl ?_
                          refine q_icge rfl rfl (fun c1354 => absurd c1354 (by decide)) (fun c1354 => ?_)
                          refine q_iload_n rfl rfl rfl ?_
                          refine q_iload rfl rfl rfl ?_
                          refine q_ishr rfl rfl (q_tn (z := 15) rfl ?_)
                          refine q_iconst rfl rfl ?_
                          refine q_iand rfl rfl (q_tn (z := 1) rfl ?_)
                          refine q_ifne rfl rfl (fun c1355 => absurd c1355 (by decide)) (fun c1355 => ?_)
                          refine q_aload_n rfl rfl rfl ?_
                          refine q_getf rfl rfl (by decide) rfl rfl ?_
                          refine q_iconst rfl rfl ?_
                          refine q_iload rfl rfl rfl ?_
                          refine q_imul rfl rfl (q_tn (z := 4) rfl ?_)
                          refine q_iload rfl rfl rfl ?_
                          refine q_bipush rfl rfl ?_
                          refine q_idiv rfl rfl (by decide) (q_tn (z := 3) rfl ?_)
                          refine q_iadd rfl rfl (q_tn (z := 7) rfl ?_)
                          refine q_iald rfl rfl (by decide) rfl (by decide) (q_tn (z := 1) rfl ?_)
                          refine q_iload rfl rfl rfl ?_
                          refine q_bipush rfl rfl ?_
                          refine q_irem rfl rfl (by decide) (q_tn (z := 3) rfl ?_)
                          refine q_ishr rfl rfl (q_tn (z := 0) rfl ?_)
                          refine q_iconst rfl rfl ?_
                          refine q_iand rfl rfl (q_tn (z := 0) rfl ?_)
                          refine q_iconst rfl rfl ?_
                          refine q_icne rfl rfl (fun c1356 => absurd c1356 (by decide)) (fun c1356 => ?_)
                          refine q_icc6 (z := 2) rfl rfl rfl rfl rfl ?_
                          refine q_icc7 (z := 2) rfl rfl rfl rfl rfl ?_
                          refine q_goto rfl ?_
                          refine q_iload rfl rfl rfl ?_
                          refine q_iconst rfl rfl ?_
                          refine q_icge rfl rfl (fun c1357 => absurd c1357 (by decide)) (fun c1357 => ?_)
                          refine q_iload_n rfl rfl rfl ?_
                          refine q_iload rfl rfl rfl ?_
                          refine q_ishr rfl rfl (q_tn (z := 7) rfl ?_)
                          refine q_iconst rfl rfl ?_
                          refine q_iand rfl rfl (q_tn (z := 1) rfl ?_)
                          refine q_ifne rfl rfl (fun c1358 => absurd c1358 (by decide)) (fun c1358 => ?_)
                          refine q_aload_n rfl rfl rfl ?_
                          refine q_getf rfl rfl (by decide) rfl rfl ?_
                          refine q_iconst rfl rfl ?_
                          refine q_iload rfl rfl rfl ?_
                          refine q_imul rfl rfl (q_tn (z := 8) rfl ?_)
                          refine q_iload rfl rfl rfl ?_
                          refine q_bipush rfl rfl ?_
                          refine q_idiv rfl rfl (by decide) (q_tn (z := 3) rfl ?_)
                          refine q_iadd rfl rfl (q_tn (z := 11) rfl ?_)
                          refine q_iald rfl rfl (by decide) rfl (by decide) (q_tn (z := 1) rfl ?_)
                          refine q_iload rfl rfl rfl ?_
                          refine q_bipush rfl rfl ?_
                          refine q_irem rfl rfl (by decide) (q_tn (z := 3) rfl ?_)
                          refine q_ishr rfl rfl (q_tn (z := 0) rfl ?_)
                          refine q_iconst rfl rfl ?_
                          refine q_iand rfl rfl (q_tn (z := 0) rfl ?_)
                          refine q_iconst rfl rfl ?_
                          refine q_icne rfl rfl (fun c1359 => absurd c1359 (by decide)) (fun c1359 => ?_)
                          refine q_icc6 (z := 3) rfl rfl rfl rfl rfl ?_
                          refine q_icc7 (z := 3) rfl rfl rfl rfl rfl ?_
                          refine q_goto rfl ?_
                          refine q_iload rfl rfl rfl ?_
                          refine q_iconst rfl rfl ?_
                          refine q_icge rfl rfl (fun c1360 => absurd c1360 (by decide)) (fun c1360 => ?_)
                          refine q_iload_n rfl rfl rfl ?_
                          refine q_iload rfl rfl rfl ?_
                          refine q_ishr rfl rfl (q_tn (z := 3) rfl ?_)
                          refine q_iconst rfl rfl ?_
                          refine q_iand rfl rfl (q_tn (z := 1) rfl ?_)
                          refine q_ifne rfl rfl (fun c1361 => absurd c1361 (by decide)) (fun c1361 => ?_)
                          refine q_aload_n rfl rfl rfl ?_
                          refine q_getf rfl rfl (by decide) rfl rfl ?_
                          refine q_iconst rfl rfl ?_
                          refine q_iload rfl rfl rfl ?_
                          refine q_imul rfl rfl (q_tn (z := 12) rfl ?_)
                          refine q_iload rfl rfl rfl ?_
                          refine q_bipush rfl rfl ?_
                          refine q_idiv rfl rfl (by decide) (q_tn (z := 3) rfl ?_)
                          refine q_iadd rfl rfl (q_tn (z := 15) rfl ?_)
                          refine q_iald rfl rfl (by decide) rfl (by decide) (q_tn (z := 1) rfl ?_)
                          refine q_iload rfl rfl rfl ?_
                          refine q_bipush rfl rfl ?_
                          refine q_irem rfl rfl (by decide) (q_tn (z := 3) rfl ?_)
                          refine q_ishr rfl rfl (q_tn (z := 0) rfl ?_)
                          refine q_iconst rfl rfl ?_
                          refine q_iand rfl rfl (q_tn (z := 0) rfl ?_)
                          refine q_iconst rfl rfl ?_
                          refine q_icne rfl rfl (fun c1362 => absurd c1362 (by decide)) (fun c1362 => ?_)
                          refine q_icc6 (z := 4) rfl rfl rfl rfl rfl ?_
                          refine q_icc7 (z := 4) rfl rfl rfl rfl rfl ?_
                          refine q_goto rfl ?_
                          refine q_iload rfl rfl rfl ?_
                          refine q_iconst rfl rfl ?_
                          refine q_icge rfl rfl (fun c1363 => absurd c1363 (by decide)) (fun c1363 => ?_)
                          refine q_iload_n rfl rfl rfl ?_
                          refine q_iload rfl rfl rfl ?_
                          refine q_ishr rfl rfl (q_tn (z := 1) rfl ?_)
                          refine q_iconst rfl rfl ?_
                          refine q_iand rfl rfl (q_tn (z := 1) rfl ?_)
                          refine q_ifne rfl rfl (fun c1364 => absurd c1364 (by decide)) (fun c1364 => ?_)
                          refine q_aload_n rfl rfl rfl ?_
                          refine q_getf rfl rfl (by decide) rfl rfl ?_
                          refine q_iconst rfl rfl ?_
                          refine q_iload rfl rfl rfl ?_
                          refine q_imul rfl rfl (q_tn (z := 16) rfl ?_)
                          refine q_iload rfl rfl rfl ?_
                          refine q_bipush rfl rfl ?_
                          refine q_idiv rfl rfl (by decide) (q_tn (z := 3) rfl ?_)
                          refine q_iadd rfl rfl (q_tn (z := 19) rfl ?_)
                          refine q_iald rfl rfl (by decide) rfl (by decide) (q_tn (z := 1) rfl ?_)
                          refine q_iload rfl rfl rfl ?_
                          refine q_bipush rfl rfl ?_
                          refine q_irem rfl rfl (by decide) (q_tn (z := 3) rfl ?_)
                          refine q_ishr rfl rfl (q_tn (z := 0) rfl ?_)
                          refine q_iconst rfl rfl ?_
                          refine q_iand rfl rfl (q_tn (z := 0) rfl ?_)
                          refine q_iconst rfl rfl ?_
                          refine q_icne rfl rfl (fun c1365 => absurd c1365 (by decide)) (fun c1365 => ?_)
                          refine q_icc6 (z := 5) rfl rfl rfl rfl rfl ?_
                          refine q_icc7 (z := 5) rfl rfl rfl rfl rfl ?_
                          refine q_goto rfl ?_
                          refine q_iload rfl rfl rfl ?_
                          refine q_iconst rfl rfl ?_
                          refine q_icge rfl rfl (fun c1366 => ?_) (fun c1366 => absurd (by decide) c1366)
                          refine q_iload rfl rfl rfl ?_
                          refine q_iload rfl rfl rfl ?_
                          refine q_icle rfl rfl (fun c1367 => ?_) (fun c1367 => absurd (by decide) c1367)
                          refine q_iload rfl rfl rfl ?_
                          refine q_ist7 rfl rfl rfl rfl ?_
                          refine q_aload_n rfl rfl rfl ?_
                          refine q_getf rfl rfl (by decide) rfl rfl ?_
                          refine q_iload rfl rfl rfl ?_
                          refine q_iald rfl rfl (by decide) ((FM_74 hM).trans (FW_74 S hW)) (by decide) (q_tn (z := (-2)) rfl ?_)
                          refine q_bipush rfl rfl ?_
                          refine q_icne rfl rfl (fun c1368 => ?_) (fun c1368 => absurd (by decide) c1368)
                          refine q_iload rfl rfl rfl ?_
                          refine q_iload_n rfl rfl rfl ?_
                          refine q_iclt rfl rfl (fun c1369 => absurd c1369 (by decide)) (fun c1369 => ?_)
                          refine q_goto rfl ?_
                          refine q_icc4 (z := 34) rfl rfl rfl rfl rfl ?_
                          refine q_goto rfl ?_
                          refine q_iload rfl rfl rfl ?_
                          refine q_bipush rfl rfl ?_
                          refine q_icge rfl rfl (fun c1370 => absurd c1370 (by decide)) (fun c1370 => ?_)
                          refine q_iconst rfl rfl ?_
                          refine q_ist5 rfl rfl rfl rfl ?_
                          refine q_iconst rfl rfl ?_
                          refine q_ist6 rfl rfl rfl rfl ?_
                          refine q_iconst rfl rfl ?_
                          refine q_ist7 rfl rfl rfl rfl ?_
                          refine q_iload rfl rfl rfl ?_
                          refine q_iconst rfl rfl ?_
                          refine q_icge rfl rfl (fun c1371 => absurd c1371 (by decide)) (fun c1371 => ?_)
                          refine q_iload_n rfl rfl rfl ?_
                          refine q_iload rfl rfl rfl ?_
                          refine q_ishr rfl rfl (q_tn (z := 31) rfl ?_)
                          refine q_iconst rfl rfl ?_
                          refine q_iand rfl rfl (q_tn (z := 1) rfl ?_)
                          refine q_ifne rfl rfl (fun c1372 => absurd c1372 (by decide)) (fun c1372 => ?_)
                          refine q_aload_n rfl rfl rfl ?_
                          refine q_getf rfl rfl (by decide) rfl rfl ?_
                          refine q_iconst rfl rfl ?_
                          refine q_iload rfl rfl rfl ?_
                          refine q_imul rfl rfl (q_tn (z := 0) rfl ?_)
                          refine q_iload rfl rfl rfl ?_
                          refine q_bipush rfl rfl ?_
                          refine q_idiv rfl rfl (by decide) (q_tn (z := 3) rfl ?_)
                          refine q_iadd rfl rfl (q_tn (z := 3) rfl ?_)
                          refine q_iald rfl rfl (by decide) rfl (by decide) (q_tn (z := 1) rfl ?_)
                          refine q_iload rfl rfl rfl ?_
                          refine q_bipush rfl rfl ?_
                          refine q_irem rfl rfl (by decide) (q_tn (z := 4) rfl ?_)
                          refine q_ishr rfl rfl (q_tn (z := 0) rfl ?_)
                          refine q_iconst rfl rfl ?_
                          refine q_iand rfl rfl (q_tn (z := 0) rfl ?_)
                          refine q_iconst rfl rfl ?_
                          refine q_icne rfl rfl (fun c1373 => absurd c1373 (by decide)) (fun c1373 => ?_)
                          refine q_icc6 (z := 1) rfl rfl rfl rfl rfl ?_
                          refine q_icc7 (z := 1) rfl rfl rfl rfl rfl ?_
                          refine q_goto rfl ?_
                          refine q_iload rfl rfl rfl ?_
                          refine q_iconst rfl rfl ?_
                          refine q_icge rfl rfl (fun c1374 => absurd c1374 (by decide)) (fun c1374 => ?_)
                          refine q_iload_n rfl rfl rfl ?_
                          refine q_iload rfl rfl rfl ?_
                          refine q_ishr rfl rfl (q_tn (z := 15) rfl ?_)
                          refine q_iconst rfl rfl ?_
                          refine q_iand rfl rfl (q_tn (z := 1) rfl ?_)
                          refine q_ifne rfl rfl (fun c1375 => absurd c1375 (by decide)) (fun c1375 => ?_)
                          refine q_aload_n rfl rfl rfl ?_
                          refine q_getf rfl rfl (by decide) rfl rfl ?_
                          refine q_iconst rfl rfl ?_
                          refine q_iload rfl rfl rfl ?_
                          refine q_imul rfl rfl (q_tn (z := 4) rfl ?_)
                          refine q_iload rfl rfl rfl ?_
                          refine q_bipush rfl rfl ?_
                          refine q_idiv rfl rfl (by decide) (q_tn (z := 3) rfl ?_)
                          refine q_iadd rfl rfl (q_tn (z := 7) rfl ?_)
                          refine q_iald rfl rfl (by decide) rfl (by decide) (q_tn (z := 1) rfl ?_)
                          refine q_iload rfl rfl rfl ?_
                          refine q_bipush rfl rfl ?_
                          refine q_irem rfl rfl (by decide) (q_tn (z := 4) rfl ?_)
                          refine q_ishr rfl rfl (q_tn (z := 0) rfl ?_)
                          refine q_iconst rfl rfl ?_
                          refine q_iand rfl rfl (q_tn (z := 0) rfl ?_)
                          refine q_iconst rfl rfl ?_
                          refine q_icne rfl rfl (fun c1376 => absurd c1376 (by decide)) (fun c1376 => ?_)
                          refine q_icc6 (z := 2) rfl rfl rfl rfl rfl ?_
                          refine q_icc7 (z := 2) rfl rfl rfl rfl rfl ?_
                          refine q_goto rfl ?_
                          refine q_iload rfl rfl rfl ?_
                          refine q_iconst rfl rfl ?_
                          refine q_icge rfl rfl (fun c1377 => absurd c1377 (by decide)) (fun c1377 => ?_)
                          refine q_iload_n rfl rfl rfl ?_
                          refine q_iload rfl rfl rfl ?_
                          refine q_ishr rfl rfl (q_tn (z := 7) rfl ?_)
                          refine q_iconst rfl rfl ?_
                          refine q_iand rfl rfl (q_tn (z := 1) rfl ?_)
                          refine q_ifne rfl rfl (fun c1378 => absurd c1378 (by decide)) (fun c1378 => ?_)
                          refine q_aload_n rfl rfl rfl ?_
                          refine q_getf rfl rfl (by decide) rfl rfl ?_
                          refine q_iconst rfl rfl ?_
                          refine q_iload rfl rfl rfl ?_
                          refine q_imul rfl rfl (q_tn (z := 8) rfl ?_)
                          refine q_iload rfl rfl rfl ?_
                          refine q_bipush rfl rfl ?_
                          refine q_idiv rfl rfl (by decide) (q_tn (z := 3) rfl ?_)
                          refine q_iadd rfl rfl (q_tn (z := 11) rfl ?_)
                          refine q_iald rfl rfl (by decide) rfl (by decide) (q_tn (z := 1) rfl ?_)
                          refine q_iload rfl rfl rfl ?_
                          refine q_bipush rfl rfl ?_
                          refine q_irem rfl rfl (by decide) (q_tn (z := 4) rfl ?_)
                          refine q_ishr rfl rfl (q_tn (z := 0) rfl ?_)
                          refine q_iconst rfl rfl ?_
                          refine q_iand rfl rfl (q_tn (z := 0) rfl ?_)
                          refine q_iconst rfl rfl ?_
                          refine q_icne rfl rfl (fun c1379 => absurd c1379 (by decide)) (fun c1379 => ?_)
                          refine q_icc6 (z := 3) rfl rfl rfl rfl rfl ?_
                          refine q_icc7 (z := 3) rfl rfl rfl rfl rfl ?_
                          refine q_goto rfl ?_
                          refine q_iload rfl rfl rfl ?_
                          refine q_iconst rfl rfl ?_
                          refine q_icge rfl rfl (fun c1380 => absurd c1380 (by decide)) (fun c1380 => ?_)
                          refine q_iload_n rfl rfl rfl ?_
                          refine q_iload rfl rfl rfl ?_
                          refine q_ishr rfl rfl (q_tn (z := 3) rfl ?_)
                          refine q_iconst rfl rfl ?_
                          refine q_iand rfl rfl (q_tn (z := 1) rfl ?_)
                          refine q_ifne rfl rfl (fun c1381 => absurd c1381 (by decide)) (fun c1381 => ?_)
                          refine q_aload_n rfl rfl rfl ?_
                          refine q_getf rfl rfl (by decide) rfl rfl ?_
                          refine q_iconst rfl rfl ?_
                          refine q_iload rfl rfl rfl ?_
                          refine q_imul rfl rfl (q_tn (z := 12) rfl ?_)
                          refine q_iload rfl rfl rfl ?_
                          refine q_bipush rfl rfl ?_
                          refine q_idiv rfl rfl (by decide) (q_tn (z := 3) rfl ?_)
                          refine q_iadd rfl rfl (q_tn (z := 15) rfl ?_)
                          refine q_iald rfl rfl (by decide) rfl (by decide) (q_tn (z := 1) rfl ?_)
                          refine q_iload rfl rfl rfl ?_
                          refine q_bipush rfl rfl ?_
                          refine q_irem rfl rfl (by decide) (q_tn (z := 4) rfl ?_)
                          refine q_ishr rfl rfl (q_tn (z := 0) rfl ?_)
                          refine q_iconst rfl rfl ?_
                          refine q_iand rfl rfl (q_tn (z := 0) rfl ?_)
                          refine q_iconst rfl rfl ?_
                          refine q_icne rfl rfl (fun c1382 => absurd c1382 (by decide)) (fun c1382 => ?_)
                          refine q_icc6 (z := 4) rfl rfl rfl rfl rfl ?_
                          refine q_icc7 (z := 4) rfl rfl rfl rfl rfl ?_
                          refine q_goto rfl ?_
                          refine q_iload rfl rfl rfl ?_
                          refine q_iconst rfl rfl ?_
                          refine q_icge rfl rfl (fun c1383 => absurd c1383 (by decide)) (fun c1383 => ?_)
                          refine q_iload_n rfl rfl rfl ?_
                          refine q_iload rfl rfl rfl ?_
                          refine q_ishr rfl rfl (q_tn (z := 1) rfl ?_)
                          refine q_iconst rfl rfl ?_
                          refine q_iand rfl rfl (q_tn (z := 1) rfl ?_)
                          refine q_ifne rfl rfl (fun c1384 => absurd c1384 (by decide)) (fun c1384 => ?_)
                          refine q_aload_n rfl rfl rfl ?_
                          refine q_getf rfl rfl (by decide) rfl rfl ?_
                          refine q_iconst rfl rfl ?_
                          refine q_iload rfl rfl rfl ?_
                          refine q_imul rfl rfl (q_tn (z := 16) rfl ?_)
                          refine q_iload rfl rfl rfl ?_
                          refine q_bipush rfl rfl ?_
                          refine q_idiv rfl rfl (by decide) (q_tn (z := 3) rfl ?_)
                          refine q_iadd rfl rfl (q_tn (z := 19) rfl ?_)
                          refine q_iald rfl rfl (by decide) rfl (by decide) (q_tn (z := 1) rfl ?_)
                          refine q_iload rfl rfl rfl ?_
                          refine q_bipush rfl rfl ?_
                          refine q_irem rfl rfl (by decide) (q_tn (z := 4) rfl ?_)
                          refine q_ishr rfl rfl (q_tn (z := 0) rfl ?_)
                          refine q_iconst rfl rfl ?_
                          refine q_iand rfl rfl (q_tn (z := 0) rfl ?_)
                          refine q_iconst rfl rfl ?_
                          refine q_icne rfl rfl (fun c1385 => absurd c1385 (by decide)) (fun c1385 => ?_)
                          refine q_icc6 (z := 5) rfl rfl rfl rfl rfl ?_
                          refine q_icc7 (z := 5) rfl rfl rfl rfl rfl ?_
                          refine q_goto rfl ?_
                          refine q_iload rfl rfl rfl ?_
                          refine q_iconst rfl rfl ?_
                          refine q_icge rfl rfl (fun c1386 => ?_) (fun c1386 => absurd (by decide) c1386)
                          refine q_iload rfl rfl rfl ?_
                          refine q_iload rfl rfl rfl ?_
                          refine q_icle rfl rfl (fun c1387 => ?_) (fun c1387 => absurd (by decide) c1387)
                          refine q_iload rfl rfl rfl ?_
                          refine q_ist7 rfl rfl rfl rfl ?_
                          refine q_aload_n rfl rfl rfl ?_
                          refine q_getf rfl rfl (by decide) rfl rfl ?_
                          refine q_iload rfl rfl rfl ?_
                          refine q_iald rfl rfl (by decide) ((FM_74 hM).trans (FW_74 S hW)) (by decide) (q_tn (z := (-2)) rfl ?_)
                          refine q_bipush rfl rfl ?_
                          refine q_icne rfl rfl (fun c1388 => ?_) (fun c1388 => absurd (by decide) c1388)
                          refine q_iload rfl rfl rfl ?_
                          refine q_iload_n rfl rfl rfl ?_
                          refine q_iclt rfl rfl (fun c1389 => absurd c1389 (by decide)) (fun c1389 => ?_)
                          refine q_goto rfl ?_
                          refine q_icc4 (z := 35) rfl rfl rfl rfl rfl ?_
                          refine q_goto rfl ?_
                          refine q_iload rfl rfl rfl ?_
                          refine q_bipush rfl rfl ?_
                          refine q_icge rfl rfl (fun c1390 => absurd c1390 (by decide)) (fun c1390 => ?_)
                          refine q_iconst rfl rfl ?_
                          refine q_ist5 rfl rfl rfl rfl ?_
                          refine q_iconst rfl rfl ?_
                          refine q_ist6 rfl rfl rfl rfl ?_
                          refine q_iconst rfl rfl ?_
                          refine q_ist7 rfl rfl rfl rfl ?_
                          refine q_iload rfl rfl rfl ?_
                          refine q_iconst rfl rfl ?_
                          refine q_icge rfl rfl (fun c1391 => absurd c1391 (by decide)) (fun c1391 => ?_)
                          refine q_iload_n rfl rfl rfl ?_
                          refine q_iload rfl rfl rfl ?_
                          refine q_ishr rfl rfl (q_tn (z := 31) rfl ?_)
                          refine q_iconst rfl rfl ?_
                          refine q_iand rfl rfl (q_tn (z := 1) rfl ?_)
                          refine q_ifne rfl rfl (fun c1392 => absurd c1392 (by decide)) (fun c1392 => ?_)
                          refine q_aload_n rfl rfl rfl ?_
                          refine q_getf rfl rfl (by decide) rfl rfl ?_
                          refine q_iconst rfl rfl ?_
                          refine q_iload rfl rfl rfl ?_
                          refine q_imul rfl rfl (q_tn (z := 0) rfl ?_)
                          refine q_iload rfl rfl rfl ?_
                          refine q_bipush rfl rfl ?_
                          refine q_idiv rfl rfl (by decide) (q_tn (z := 3) rfl ?_)
                          refine q_iadd rfl rfl (q_tn (z := 3) rfl ?_)
                          refine q_iald rfl rfl (by decide) rfl (by decide) (q_tn (z := 1) rfl ?_)
                          refine q_iload rfl rfl rfl ?_
                          refine q_bipush rfl rfl ?_
                          refine q_irem rfl rfl (by decide) (q_tn (z := 5) rfl ?_)
                          refine q_ishr rfl rfl (q_tn (z := 0) rfl ?_)
                          refine q_iconst rfl rfl ?_
                          refine q_iand rfl rfl (q_tn (z := 0) rfl ?_)
                          refine q_iconst rfl rfl ?_
                          refine q_icne rfl rfl (fun c1393 => absurd c1393 (by decide)) (fun c1393 => ?_)
                          refine q_icc6 (z := 1) rfl rfl rfl rfl rfl ?_
                          refine q_icc7 (z := 1) rfl rfl rfl rfl rfl ?_
                          refine q_goto rfl ?_
                          refine q_iload rfl rfl rfl ?_
                          refine q_iconst rfl rfl ?_
                          refine q_icge rfl rfl (fun c1394 => absurd c1394 (by decide)) (fun c1394 => ?_)
                          refine q_iload_n rfl rfl rfl ?_
                          refine q_iload rfl rfl rfl ?_
                          refine q_ishr rfl rfl (q_tn (z := 15) rfl ?_)
                          refine q_iconst rfl rfl ?_
                          refine q_iand rfl rfl (q_tn (z := 1) rfl ?_)
                          refine q_ifne rfl rfl (fun c1395 => absurd c1395 (by decide)) (fun c1395 => ?_)
                          refine q_aload_n rfl rfl rfl ?_
                          refine q_getf rfl rfl (by decide) rfl rfl ?_
                          refine q_iconst rfl rfl ?_
                          refine q_iload rfl rfl rfl ?_
                          refine q_imul rfl rfl (q_tn (z := 4) rfl ?_)
                          refine q_iload rfl rfl rfl ?_
                          refine q_bipush rfl rfl ?_
                          refine q_idiv rfl rfl (by decide) (q_tn (z := 3) rfl ?_)
                          refine q_iadd rfl rfl (q_tn (z := 7) rfl ?_)
                          refine q_iald rfl rfl (by decide) rfl (by decide) (q_tn (z := 1) rfl ?_)
                          refine q_iload rfl rfl rfl ?_
                          refine q_bipush rfl rfl ?_
                          refine q_irem rfl rfl (by decide) (q_tn (z := 5) rfl ?_)
                          refine q_ishr rfl rfl (q_tn (z := 0) rfl ?_)
                          refine q_iconst rfl rfl ?_
                          refine q_iand rfl rfl (q_tn (z := 0) rfl ?_)
                          refine q_iconst rfl rfl ?_
                          refine q_icne rfl rfl (fun c1396 => absurd c1396 (by decide)) (fun c1396 => ?_)
                          refine q_icc6 (z := 2) rfl rfl rfl rfl rfl ?_
                          refine q_icc7 (z := 2) rfl rfl rfl rfl rfl ?_
                          refine q_goto rfl ?_
                          refine q_iload rfl rfl rfl ?_
                          refine q_iconst rfl rfl ?_
                          refine q_icge rfl rfl (fun c1397 => absurd c1397 (by decide)) (fun c1397 => ?_)
                          refine q_iload_n rfl rfl rfl ?_
                          refine q_iload rfl rfl rfl ?_
                          refine q_ishr rfl rfl (q_tn (z := 7) rfl ?_)
                          refine q_iconst rfl rfl ?_
                          refine q_iand rfl rfl (q_tn (z := 1) rfl ?_)
                          refine q_ifne rfl rfl (fun c1398 => absurd c1398 (by decide)) (fun c1398 => ?_)
                          refine q_aload_n rfl rfl rfl ?_
                          refine q_getf rfl rfl (by decide) rfl rfl ?_
                          refine q_iconst rfl rfl ?_
                          refine q_iload rfl rfl rfl ?_
                          refine q_imul rfl rfl (q_tn (z := 8) rfl ?_)
                          refine q_iload rfl rfl rfl ?_
                          refine q_bipush rfl rfl ?_
                          refine q_idiv rfl rfl (by decide) (q_tn (z := 3) rfl ?_)
                          refine q_iadd rfl rfl (q_tn (z := 11) rfl ?_)
                          refine q_iald rfl rfl (by decide) rfl (by decide) (q_tn (z := 1) rfl ?_)
                          refine q_iload rfl rfl rfl ?_
                          refine q_bipush rfl rfl ?_
                          refine q_irem rfl rfl (by decide) (q_tn (z := 5) rfl ?_)
                          refine q_ishr rfl rfl (q_tn (z := 0) rfl ?_)
                          refine q_iconst rfl rfl ?_
                          refine q_iand rfl rfl (q_tn (z := 0) rfl ?_)
                          refine q_iconst rfl rfl ?_
                          refine q_icne rfl rfl (fun c1399 => absurd c1399 (by decide)) (fun c1399 => ?_)
                          refine q_icc6 (z := 3) rfl rfl rfl rfl rfl ?_
                          refine q_icc7 (z := 3) rfl rfl rfl rfl rfl ?_
                          refine q_goto rfl ?_
                          refine q_iload rfl rfl rfl ?_
                          refine q_iconst rfl rfl ?_
                          refine q_icge rfl rfl (fun c1400 => absurd c1400 (by decide)) (fun c1400 => ?_)
                          refine q_iload_n rfl rfl rfl ?_
                          refine q_iload rfl rfl rfl ?_
                          refine q_ishr rfl rfl (q_tn (z := 3) rfl ?_)
                          refine q_iconst rfl rfl ?_
                          refine q_iand rfl rfl (q_tn (z := 1) rfl ?_)
                          refine q_ifne rfl rfl (fun c1401 => absurd c1401 (by decide)) (fun c1401 => ?_)
                          refine q_aload_n rfl rfl rfl ?_
                          refine q_getf rfl rfl (by decide) rfl rfl ?_
                          refine q_iconst rfl rfl ?_
                          refine q_iload rfl rfl rfl ?_
                          refine q_imul rfl rfl (q_tn (z := 12) rfl ?_)
                          refine q_iload rfl rfl rfl ?_
                          refine q_bipush rfl rfl ?_
                          refine q_idiv rfl rfl (by decide) (q_tn (z := 3) rfl ?_)
                          refine q_iadd rfl rfl (q_tn (z := 15) rfl ?_)
                          refine q_iald rfl rfl (by decide) rfl (by decide) (q_tn (z := 1) rfl ?_)
                          refine q_iload rfl rfl rfl ?_
                          refine q_bipush rfl rfl ?_
                          refine q_irem rfl rfl (by decide) (q_tn (z := 5) rfl ?_)
                          refine q_ishr rfl rfl (q_tn (z := 0) rfl ?_)
                          refine q_iconst rfl rfl ?_
                          refine q_iand rfl rfl (q_tn (z := 0) rfl ?_)
                          refine q_iconst rfl rfl ?_
                          refine q_icne rfl rfl (fun c1402 => absurd c1402 (by decide)) (fun c1402 => ?_)
                          refine q_icc6 (z := 4) rfl rfl rfl rfl rfl ?_
                          refine q_icc7 (z := 4) rfl rfl rfl rfl rfl ?_
                          refine q_goto rfl ?_
                          refine q_iload rfl rfl rfl ?_
                          refine q_iconst rfl rfl ?_
                          refine q_icge rfl rfl (fun c1403 => absurd c1403 (by decide)) (fun c1403 => ?_)
                          refine q_iload_n rfl rfl rfl ?_
                          refine q_iload rfl rfl rfl ?_
                          refine q_ishr rfl rfl (q_tn (z := 1) rfl ?_)
                          refine q_iconst rfl rfl ?_
                          refine q_iand rfl rfl (q_tn (z := 1) rfl ?_)
                          refine q_ifne rfl rfl (fun c1404 => absurd c1404 (by decide)) (fun c1404 => ?_)
                          refine q_aload_n rfl rfl rfl ?_
                          refine q_getf rfl rfl (by decide) rfl rfl ?_
                          refine q_iconst rfl rfl ?_
                          refine q_iload rfl rfl rfl ?_
                          refine q_imul rfl rfl (q_tn (z := 16) rfl ?_)
                          refine q_iload rfl rfl rfl ?_
                          refine q_bipush rfl rfl ?_
                          refine q_idiv rfl rfl (by decide) (q_tn (z := 3) rfl ?_)
                          refine q_iadd rfl rfl (q_tn (z := 19) rfl ?_)
                          refine q_iald rfl rfl (by decide) rfl (by decide) (q_tn (z := 1) rfl ?_)
                          refine q_iload rfl rfl rfl ?_
                          refine q_bipush rfl rfl ?_
                          refine q_irem rfl rfl (by decide) (q_tn (z := 5) rfl ?_)
                          refine q_ishr rfl rfl (q_tn (z := 0) rfl ?_)
                          refine q_iconst rfl rfl ?_
                          refine q_iand rfl rfl (q_tn (z := 0) rfl ?_)
                          refine q_iconst rfl rfl ?_
                          refine q_icne rfl rfl (fun c1405 => absurd c1405 (by decide)) (fun c1405 => ?_)
                          refine q_icc6 (z := 5) rfl rfl rfl rfl rfl ?_
                          refine q_icc7 (z := 5) rfl rfl rfl rfl rfl ?_
                          refine q_goto rfl ?_
                          refine q_iload rfl rfl rfl ?_
                          refine q_iconst rfl rfl ?_
                          refine q_icge rfl rfl (fun c1406 => ?_) (fun c1406 => absurd (by decide) c1406)
                          refine q_iload rfl rfl rfl ?_
                          refine q_iload rfl rfl rfl ?_
                          refine q_icle rfl rfl (fun c1407 => ?_) (fun c1407 => absurd (by decide) c1407)
                          refine q_iload rfl rfl rfl ?_
                          refine q_ist7 rfl rfl rfl rfl ?_
                          refine q_aload_n rfl rfl rfl ?_
                          refine q_getf rfl rfl (by decide) rfl rfl ?_
                          refine q_iload rfl rfl rfl ?_
                          refine q_iald rfl rfl (by decide) ((FM_74 hM).trans (FW_74 S hW)) (by decide) (q_tn (z := (-2)) rfl ?_)
                          refine q_bipush rfl rfl ?_
                          refine q_icne rfl rfl (fun c1408 => ?_) (fun c1408 => absurd (by decide) c1408)
                          refine q_iload rfl rfl rfl ?_
                          refine q_iload_n rfl rfl rfl ?_
                          refine q_iclt rfl rfl (fun c1409 => absurd c1409 (by decide)) (fun c1409 => ?_)
                          refine q_goto rfl ?_
                          refine q_icc4 (z := 36) rfl rfl rfl rfl rfl ?_
                          refine q_goto rfl ?_
                          refine q_iload rfl rfl rfl ?_
                          refine q_bipush rfl rfl ?_
                          refine q_icge rfl rfl (fun c1410 => absurd c1410 (by decide)) (fun c1410 => ?_)
                          refine q_iconst rfl rfl ?_
                          refine q_ist5 rfl rfl rfl rfl ?_
                          refine q_iconst rfl rfl ?_
                          refine q_ist6 rfl rfl rfl rfl ?_
                          refine q_iconst rfl rfl ?_
                          refine q_ist7 rfl rfl rfl rfl ?_
                          refine q_iload rfl rfl rfl ?_
                          refine q_iconst rfl rfl ?_
                          refine q_icge rfl rfl (fun c1411 => absurd c1411 (by decide)) (fun c1411 => ?_)
                          refine q_iload_n rfl rfl rfl ?_
                          refine q_iload rfl rfl rfl ?_
                          refine q_ishr rfl rfl (q_tn (z := 31) rfl ?_)
                          refine q_iconst rfl rfl ?_
                          refine q_iand rfl rfl (q_tn (z := 1) rfl ?_)
                          refine q_ifne rfl rfl (fun c1412 => absurd c1412 (by decide)) (fun c1412 => ?_)
                          refine q_aload_n rfl rfl rfl ?_
                          refine q_getf rfl rfl (by decide) rfl rfl ?_
                          refine q_iconst rfl rfl ?_
                          refine q_iload rfl rfl rfl ?_
                          refine q_imul rfl rfl (q_tn (z := 0) rfl ?_)
                          refine q_iload rfl rfl rfl ?_
                          refine q_bipush rfl rfl ?_
                          refine q_idiv rfl rfl (by decide) (q_tn (z := 3) rfl ?_)
                          refine q_iadd rfl rfl (q_tn (z := 3) rfl ?_)
                          refine q_iald rfl rfl (by decide) rfl (by decide) (q_tn (z := 1) rfl ?_)
                          refine q_iload rfl rfl rfl ?_
                          refine q_bipush rfl rfl ?_
                          refine q_irem rfl rfl (by decide) (q_tn (z := 6) rfl ?_)
                          refine q_ishr rfl rfl (q_tn (z := 0) rfl ?_)
                          refine q_iconst rfl rfl ?_
                          refine q_iand rfl rfl (q_tn (z := 0) rfl ?_)
                          refine q_iconst rfl rfl ?_
                          refine q_icne rfl rfl (fun c1413 => absurd c1413 (by decide)) (fun c1413 => ?_)
                          refine q_icc6 (z := 1) rfl rfl rfl rfl rfl ?_
                          refine q_icc7 (z := 1) rfl rfl rfl rfl rfl ?_
                          refine q_goto rfl ?_
                          refine q_iload rfl rfl rfl ?_
                          refine q_iconst rfl rfl ?_
                          refine q_icge rfl rfl (fun c1414 => absurd c1414 (by decide)) (fun c1414 => ?_)
                          refine q_iload_n rfl rfl rfl ?_
                          refine q_iload rfl rfl rfl ?_
                          refine q_ishr rfl rfl (q_tn (z := 15) rfl ?_)
                          refine q_iconst rfl rfl ?_
                          refine q_iand rfl rfl (q_tn (z := 1) rfl ?_)
                          refine q_ifne rfl rfl (fun c1415 => absurd c1415 (by decide)) (fun c1415 => ?_)
                          refine q_aload_n rfl rfl rfl ?_
                          refine q_getf rfl rfl (by decide) rfl rfl ?_
                          refine q_iconst rfl rfl ?_
                          refine q_iload rfl rfl rfl ?_
                          refine q_imul rfl rfl (q_tn (z := 4) rfl ?_)
                          refine q_iload rfl rfl rfl ?_
                          refine q_bipush rfl rfl ?_
                          refine q_idiv rfl rfl (by decide) (q_tn (z := 3) rfl ?_)
                          refine q_iadd rfl rfl (q_tn (z := 7) rfl ?_)
                          refine q_iald rfl rfl (by decide) rfl (by decide) (q_tn (z := 1) rfl ?_)
                          refine q_iload rfl rfl rfl ?_
                          refine q_bipush rfl rfl ?_
                          refine q_irem rfl rfl (by decide) (q_tn (z := 6) rfl ?_)
                          refine q_ishr rfl rfl (q_tn (z := 0) rfl ?_)
                          refine q_iconst rfl rfl ?_
                          refine q_iand rfl rfl (q_tn (z := 0) rfl ?_)
                          refine q_iconst rfl rfl ?_
                          refine q_icne rfl rfl (fun c1416 => absurd c1416 (by decide)) (fun c1416 => ?_)
                          refine q_icc6 (z := 2) rfl rfl rfl rfl rfl ?_
                          refine q_icc7 (z := 2) rfl rfl rfl rfl rfl ?_
                          refine q_goto rfl ?_
                          refine q_iload rfl rfl rfl ?_
                          refine q_iconst rfl rfl ?_
                          refine q_icge rfl rfl (fun c1417 => absurd c1417 (by decide)) (fun c1417 => ?_)
                          refine q_iload_n rfl rfl rfl ?_
                          refine q_iload rfl rfl rfl ?_
                          refine q_ishr rfl rfl (q_tn (z := 7) rfl ?_)
                          refine q_iconst rfl rfl ?_
                          refine q_iand rfl rfl (q_tn (z := 1) rfl ?_)
                          refine q_ifne rfl rfl (fun c1418 => absurd c1418 (by decide)) (fun c1418 => ?_)
                          refine q_aload_n rfl rfl rfl ?_
                          refine q_getf rfl rfl (by decide) rfl rfl ?_
                          refine q_iconst rfl rfl ?_
                          refine q_iload rfl rfl rfl ?_
                          refine q_imul rfl rfl (q_tn (z := 8) rfl ?_)
                          refine q_iload rfl rfl rfl ?_
                          refine q_bipush rfl rfl ?_
                          refine q_idiv rfl rfl (by decide) (q_tn (z := 3) rfl ?_)
                          refine q_iadd rfl rfl (q_tn (z := 11) rfl ?_)
                          refine q_iald rfl rfl (by decide) rfl (by decide) (q_tn (z := 1) rfl ?_)
                          refine q_iload rfl rfl rfl ?_
                          refine q_bipush rfl rfl ?_
                          refine q_irem rfl rfl (by decide) (q_tn (z := 6) rfl ?_)
                          refine q_ishr rfl rfl (q_tn (z := 0) rfl ?_)
                          refine q_iconst rfl rfl ?_
                          refine q_iand rfl rfl (q_tn (z := 0) rfl ?_)
                          refine q_iconst rfl rfl ?_
                          refine q_icne rfl rfl (fun c1419 => absurd c1419 (by decide)) (fun c1419 => ?_)
                          refine q_icc6 (z := 3) rfl rfl rfl rfl rfl ?_
                          refine q_icc7 (z := 3) rfl rfl rfl rfl rfl ?_
                          refine q_goto rfl ?_
                          refine q_iload rfl rfl rfl ?_
                          refine q_iconst rfl rfl ?_
                          refine q_icge rfl rfl (fun c1420 => absurd c1420 (by decide)) (fun c1420 => ?_)
                          refine q_iload_n rfl rfl rfl ?_
                          refine q_iload rfl rfl rfl ?_
                          refine q_ishr rfl rfl (q_tn (z := 3) rfl ?_)
                          refine q_iconst rfl rfl ?_
                          refine q_iand rfl rfl (q_tn (z := 1) rfl ?_)
                          refine q_ifne rfl rfl (fun c1421 => absurd c1421 (by decide)) (fun c1421 => ?_)
                          refine q_aload_n rfl rfl rfl ?_
                          refine q_getf rfl rfl (by decide) rfl rfl ?_
                          refine q_iconst rfl rfl ?_
                          refine q_iload rfl rfl rfl ?_
                          refine q_imul rfl rfl (q_tn (z := 12) rfl ?_)
                          refine q_iload rfl rfl rfl ?_
                          refine q_bipush rfl rfl ?_
                          refine q_idiv rfl rfl (by decide) (q_tn (z := 3) rfl ?_)
                          refine q_iadd rfl rfl (q_tn (z := 15) rfl ?_)
                          refine q_iald rfl rfl (by decide) rfl (by decide) (q_tn (z := 1) rfl ?_)
                          refine q_iload rfl rfl rfl ?_
                          refine q_bipush rfl rfl ?_
                          refine q_irem rfl rfl (by decide) (q_tn (z := 6) rfl ?_)
                          refine q_ishr rfl rfl (q_tn (z := 0) rfl ?_)
                          refine q_iconst rfl rfl ?_
                          refine q_iand rfl rfl (q_tn (z := 0) rfl ?_)
                          refine q_iconst rfl rfl ?_
                          refine q_icne rfl rfl (fun c1422 => absurd c1422 (by decide)) (fun c1422 => ?_)
                          refine q_icc6 (z := 4) rfl rfl rfl rfl rfl ?_
                          refine q_icc7 (z := 4) rfl rfl rfl rfl rfl ?_
                          refine q_goto rfl ?_
                          refine q_iload rfl rfl rfl ?_
                          refine q_iconst rfl rfl ?_
                          refine q_icge rfl rfl (fun c1423 => absurd c1423 (by decide)) (fun c1423 => ?_)
                          refine q_iload_n rfl rfl rfl ?_
                          refine q_iload rfl rfl rfl ?_
                          refine q_ishr rfl rfl (q_tn (z := 1) rfl ?_)
                          refine q_iconst rfl rfl ?_
                          refine q_iand rfl rfl (q_tn (z := 1) rfl ?_)
                          refine q_ifne rfl rfl (fun c1424 => absurd c1424 (by decide)) (fun c1424 => ?_)
                          refine q_aload_n rfl rfl rfl ?_
                          refine q_getf rfl rfl (by decide) rfl rfl ?_
                          refine q_iconst rfl rfl ?_
                          refine q_iload rfl rfl rfl ?_
                          refine q_imul rfl rfl (q_tn (z := 16) rfl ?_)
                          refine q_iload rfl rfl rfl ?_
                          refine q_bipush rfl rfl ?_
                          refine q_idiv rfl rfl (by decide) (q_tn (z := 3) rfl ?_)
                          refine q_iadd rfl rfl (q_tn (z := 19) rfl ?_)
                          refine q_iald rfl rfl (by decide) rfl (by decide) (q_tn (z := 1) rfl ?_)
                          refine q_iload rfl rfl rfl ?_
                          refine q_bipush rfl rfl ?_
                          refine q_irem rfl rfl (by decide) (q_tn (z := 6) rfl ?_)
                          refine q_ishr rfl rfl (q_tn (z := 0) rfl ?_)
                          refine q_iconst rfl rfl ?_
                          refine q_iand rfl rfl (q_tn (z := 0) rfl ?_)
                          refine q_iconst rfl rfl ?_
                          refine q_icne rfl rfl (fun c1425 => absurd c1425 (by decide)) (fun c1425 => ?_)
                          refine q_icc6 (z := 5) rfl rfl rfl rfl rfl ?_
                          refine q_icc7 (z := 5) rfl rfl rfl rfl rfl ?_
                          refine q_goto rfl ?_
                          refine q_iload rfl rfl rfl ?_
                          refine q_iconst rfl rfl ?_
                          refine q_icge rfl rfl (fun c1426 => ?_) (fun c1426 => absurd (by decide) c1426)
                          refine q_iload rfl rfl rfl ?_
                          refine q_iload rfl rfl rfl ?_
                          refine q_icle rfl rfl (fun c1427 => ?_) (fun c1427 => absurd (by decide) c1427)
                          refine q_iload rfl rfl rfl ?_
                          refine q_ist7 rfl rfl rfl rfl ?_
                          refine q_aload_n rfl rfl rfl ?_
                          refine q_getf rfl rfl (by decide) rfl rfl ?_
                          refine q_iload rfl rfl rfl ?_
                          refine q_iald rfl rfl (by decide) ((FM_74 hM).trans (FW_74 S hW)) (by decide) (q_tn (z := (-2)) rfl ?_)
                          refine q_bipush rfl rfl ?_
                          refine q_icne rfl rfl (fun c1428 => ?_) (fun c1428 => absurd (by decide) c1428)
                          refine q_iload rfl rfl rfl ?_
                          refine q_iload_n rfl rfl rfl ?_
                          refine q_iclt rfl rfl (fun c1429 => absurd c1429 (by decide)) (fun c1429 => ?_)
                          refine q_goto rfl ?_
                          refine q_icc4 (z := 37) rfl rfl rfl rfl rfl ?_
                          refine q_goto rfl ?_
                          refine q_iload rfl rfl rfl ?_
                          refine q_bipush rfl rfl ?_
                          refine q_icge rfl rfl (fun c1430 => absurd c1430 (by decide)) (fun c1430 => ?_)
                          refine q_iconst rfl rfl ?_
                          refine q_ist5 rfl rfl rfl rfl ?_
                          refine q_iconst rfl rfl ?_
                          refine q_ist6 rfl rfl rfl rfl ?_
                          refine q_iconst rfl rfl ?_
                          refine q_ist7 rfl rfl rfl rfl ?_
                          refine q_iload rfl rfl rfl ?_
                          refine q_iconst rfl rfl ?_
                          refine q_icge rfl rfl (fun c1431 => absurd c1431 (by decide)) (fun c1431 => ?_)
                          refine q_iload_n rfl rfl rfl ?_
                          refine q_iload rfl rfl rfl ?_
                          refine q_ishr rfl rfl (q_tn (z := 31) rfl ?_)
                          refine q_iconst rfl rfl ?_
                          refine q_iand rfl rfl (q_tn (z := 1) rfl ?_)
                          refine q_ifne rfl rfl (fun c1432 => absurd c1432 (by decide)) (fun c1432 => ?_)
                          refine q_aload_n rfl rfl rfl ?_
                          refine q_getf rfl rfl (by decide) rfl rfl ?_
                          refine q_iconst rfl rfl ?_
                          refine q_iload rfl rfl rfl ?_
                          refine q_imul rfl rfl (q_tn (z := 0) rfl ?_)
                          refine q_iload rfl rfl rfl ?_
                          refine q_bipush rfl rfl ?_
                          refine q_idiv rfl rfl (by decide) (q_tn (z := 3) rfl ?_)
                          refine q_iadd rfl rfl (q_tn (z := 3) rfl ?_)
                          refine q_iald rfl rfl (by decide) rfl (by decide) (q_tn (z := 1) rfl ?_)
                          refine q_iload rfl rfl rfl ?_
                          refine q_bipush rfl rfl ?_
                          refine q_irem rfl rfl (by decide) (q_tn (z := 7) rfl ?_)
                          refine q_ishr rfl rfl (q_tn (z := 0) rfl ?_)
                          refine q_iconst rfl rfl ?_
                          refine q_iand rfl rfl (q_tn (z := 0) rfl ?_)
                          refine q_iconst rfl rfl ?_
                          refine q_icne rfl rfl (fun c1433 => absurd c1433 (by decide)) (fun c1433 => ?_)
                          refine q_icc6 (z := 1) rfl rfl rfl rfl rfl ?_
                          refine q_icc7 (z := 1) rfl rfl rfl rfl rfl ?_
                          refine q_goto rfl ?_
                          refine q_iload rfl rfl rfl ?_
                          refine q_iconst rfl rfl ?_
                          refine q_icge rfl rfl (fun c1434 => absurd c1434 (by decide)) (fun c1434 => ?_)
                          refine q_iload_n rfl rfl rfl ?_
                          refine q_iload rfl rfl rfl ?_
                          refine q_ishr rfl rfl (q_tn (z := 15) rfl ?_)
                          refine q_iconst rfl rfl ?_
                          refine q_iand rfl rfl (q_tn (z := 1) rfl ?_)
                          refine q_ifne rfl rfl (fun c1435 => absurd c1435 (by decide)) (fun c1435 => ?_)
                          refine q_aload_n rfl rfl rfl ?_
                          refine q_getf rfl rfl (by decide) rfl rfl ?_
                          refine q_iconst rfl rfl ?_
                          refine q_iload rfl rfl rfl ?_
                          refine q_imul rfl rfl (q_tn (z := 4) rfl ?_)
                          refine q_iload rfl rfl rfl ?_
                          refine q_bipush rfl rfl ?_
                          refine q_idiv rfl rfl (by decide) (q_tn (z := 3) rfl ?_)
                          refine q_iadd rfl rfl (q_tn (z := 7) rfl ?_)
                          refine q_iald rfl rfl (by decide) rfl (by decide) (q_tn (z := 1) rfl ?_)
                          refine q_iload rfl rfl rfl ?_
                          refine q_bipush rfl rfl ?_
                          refine q_irem rfl rfl (by decide) (q_tn (z := 7) rfl ?_)
                          refine q_ishr rfl rfl (q_tn (z := 0) rfl ?_)
                          refine q_iconst rfl rfl ?_
                          refine q_iand rfl rfl (q_tn (z := 0) rfl ?_)
                          refine q_iconst rfl rfl ?_
                          refine q_icne rfl rfl (fun c1436 => absurd c1436 (by decide)) (fun c1436 => ?_)
                          refine q_icc6 (z := 2) rfl rfl rfl rfl rfl ?_
                          refine q_icc7 (z := 2) rfl rfl rfl rfl rfl ?_
                          refine q_goto rfl ?_
                          refine q_iload rfl rfl rfl ?_
                          refine q_iconst rfl rfl ?_
                          refine q_icge rfl rfl (fun c1437 => absurd c1437 (by decide)) (fun c1437 => ?_)
                          refine q_iload_n rfl rfl rfl ?_
                          refine q_iload rfl rfl rfl ?_
                          refine q_ishr rfl rfl (q_tn (z := 7) rfl ?_)
                          refine q_iconst rfl rfl ?_
                          refine q_iand rfl rfl (q_tn (z := 1) rfl ?_)
                          refine q_ifne rfl rfl (fun c1438 => absurd c1438 (by decide)) (fun c1438 => ?_)
                          refine q_aload_n rfl rfl rfl ?_
                          refine q_getf rfl rfl (by decide) rfl rfl ?_
                          refine q_iconst rfl rfl ?_
                          refine q_iload rfl rfl rfl ?_
                          refine q_imul rfl rfl (q_tn (z := 8) rfl ?_)
                          refine q_iload rfl rfl rfl ?_
                          refine q_bipush rfl rfl ?_
                          refine q_idiv rfl rfl (by decide) (q_tn (z := 3) rfl ?_)
                          refine q_iadd rfl rfl (q_tn (z := 11) rfl ?_)
                          refine q_iald rfl rfl (by decide) rfl (by decide) (q_tn (z := 1) rfl ?_)
                          refine q_iload rfl rfl rfl ?_
                          refine q_bipush rfl rfl ?_
                          refine q_irem rfl rfl (by decide) (q_tn (z := 7) rfl ?_)
                          refine q_ishr rfl rfl (q_tn (z := 0) rfl ?_)
                          refine q_iconst rfl rfl ?_
                          refine q_iand rfl rfl (q_tn (z := 0) rfl ?_)
                          refine q_iconst rfl rfl ?_
                          refine q_icne rfl rfl (fun c1439 => absurd c1439 (by decide)) (fun c1439 => ?_)
                          refine q_icc6 (z := 3) rfl rfl rfl rfl rfl ?_
                          refine q_icc7 (z := 3) rfl rfl rfl rfl rfl ?_
                          refine q_goto rfl ?_
                          refine q_iload rfl rfl rfl ?_
                          refine q_iconst rfl rfl ?_
                          refine q_icge rfl rfl (fun c1440 => absurd c1440 (by decide)) (fun c1440 => ?_)
                          refine q_iload_n rfl rfl rfl ?_
                          refine q_iload rfl rfl rfl ?_
                          refine q_ishr rfl rfl (q_tn (z := 3) rfl ?_)
                          refine q_iconst rfl rfl ?_
                          refine q_iand rfl rfl (q_tn (z := 1) rfl ?_)
                          refine q_ifne rfl rfl (fun c1441 => absurd c1441 (by decide)) (fun c1441 => ?_)
                          refine q_aload_n rfl rfl rfl ?_
                          refine q_getf rfl rfl (by decide) rfl rfl ?_
                          refine q_iconst rfl rfl ?_
                          refine q_iload rfl rfl rfl ?_
                          refine q_imul rfl rfl (q_tn (z := 12) rfl ?_)
                          refine q_iload rfl rfl rfl ?_
                          refine q_bipush rfl rfl ?_
                          refine q_idiv rfl rfl (by decide) (q_tn (z := 3) rfl ?_)
                          refine q_iadd rfl rfl (q_tn (z := 15) rfl ?_)
                          refine q_iald rfl rfl (by decide) rfl (by decide) (q_tn (z := 1) rfl ?_)
                          refine q_iload rfl rfl rfl ?_
                          refine q_bipush rfl rfl ?_
                          refine q_irem rfl rfl (by decide) (q_tn (z := 7) rfl ?_)
                          refine q_ishr rfl rfl (q_tn (z := 0) rfl ?_)
                          refine q_iconst rfl rfl ?_
                          refine q_iand rfl rfl (q_tn (z := 0) rfl ?_)
                          refine q_iconst rfl rfl ?_
                          refine q_icne rfl rfl (fun c1442 => absurd c1442 (by decide)) (fun c1442 => ?_)
                          refine q_icc6 (z := 4) rfl rfl rfl rfl rfl ?_
                          refine q_icc7 (z := 4) rfl rfl rfl rfl rfl ?_
                          refine q_goto rfl ?_
                          refine q_iload rfl rfl rfl ?_
                          refine q_iconst rfl rfl ?_
                          refine q_icge rfl rfl (fun c1443 => absurd c1443 (by decide)) (fun c1443 => ?_)
                          refine q_iload_n rfl rfl rfl ?_
                          refine q_iload rfl rfl rfl ?_
                          refine q_ishr rfl rfl (q_tn (z := 1) rfl ?_)
                          refine q_iconst rfl rfl ?_
                          refine q_iand rfl rfl (q_tn (z := 1) rfl ?_)
                          refine q_ifne rfl rfl (fun c1444 => absurd c1444 (by decide)) (fun c1444 => ?_)
                          refine q_aload_n rfl rfl rfl ?_
                          refine q_getf rfl rfl (by decide) rfl rfl ?_
                          refine q_iconst rfl rfl ?_
                          refine q_iload rfl rfl rfl ?_
                          refine q_imul rfl rfl (q_tn (z := 16) rfl ?_)
                          refine q_iload rfl rfl rfl ?_
                          refine q_bipush rfl rfl ?_
                          refine q_idiv rfl rfl (by decide) (q_tn (z := 3) rfl ?_)
                          refine q_iadd rfl rfl (q_tn (z := 19) rfl ?_)
                          refine q_iald rfl rfl (by decide) rfl (by decide) (q_tn (z := 1) rfl ?_)
                          refine q_iload rfl rfl rfl ?_
                          refine q_bipush rfl rfl ?_
                          refine q_irem rfl rfl (by decide) (q_tn (z := 7) rfl ?_)
                          refine q_ishr rfl rfl (q_tn (z := 0) rfl ?_)
                          refine q_iconst rfl rfl ?_
                          refine q_iand rfl rfl (q_tn (z := 0) rfl ?_)
                          refine q_iconst rfl rfl ?_
                          refine q_icne rfl rfl (fun c1445 => absurd c1445 (by decide)) (fun c1445 => ?_)
                          refine q_icc6 (z := 5) rfl rfl rfl rfl rfl ?_
                          refine q_icc7 (z := 5) rfl rfl rfl rfl rfl ?_
                          refine q_goto rfl ?_
                          as_aux_lemma =>
                            refine q_iload rfl rfl rfl ?_
                            refine q_iconst rfl rfl ?_
                            refine q_icge rfl rfl (fun c1446 => ?_) (fun c1446 => absurd (by decide) c1446)
                            refine q_iload rfl rfl rfl ?_
                            refine q_iload rfl rfl rfl ?_
                            refine q_icle rfl rfl (fun c1447 => ?_) (fun c1447 => absurd (by decide) c1447)
                            refine q_iload rfl rfl rfl ?_
                            refine q_ist7 rfl rfl rfl rfl ?_
                            refine q_aload_n rfl rfl rfl ?_
                            refine q_getf rfl rfl (by decide) rfl rfl ?_
                            refine q_iload rfl rfl rfl ?_
                            refine q_iald rfl rfl (by decide) ((FM_74 hM).trans (FW_74 S hW)) (by decide) (q_tn (z := (-2)) rfl ?_)
                            refine q_bipush rfl rfl ?_
                            refine q_icne rfl rfl (fun c1448 => ?_) (fun c1448 => absurd (by decide) c1448)
                            refine q_iload rfl rfl rfl ?_
                            refine q_iload_n rfl rfl rfl ?_
                            refine q_iclt rfl rfl (fun c1449 => absurd c1449 (by decide)) (fun c1449 => ?_)
                            refine q_goto rfl ?_
                            refine q_icc4 (z := 38) rfl rfl rfl rfl rfl ?_
                            refine q_goto rfl ?_
                            refine q_iload rfl rfl rfl ?_
                            refine q_bipush rfl rfl ?_
                            refine q_icge rfl rfl (fun c1450 => absurd c1450 (by decide)) (fun c1450 => ?_)
                            refine q_iconst rfl rfl ?_
                            refine q_ist5 rfl rfl rfl rfl ?_
                            refine q_iconst rfl rfl ?_
                            refine q_ist6 rfl rfl rfl rfl ?_
                            refine q_iconst rfl rfl ?_
                            refine q_ist7 rfl rfl rfl rfl ?_
                            refine q_iload rfl rfl rfl ?_
                            refine q_iconst rfl rfl ?_
                            refine q_icge rfl rfl (fun c1451 => absurd c1451 (by decide)) (fun c1451 => ?_)
                            refine q_iload_n rfl rfl rfl ?_
                            refine q_iload rfl rfl rfl ?_
                            refine q_ishr rfl rfl (q_tn (z := 31) rfl ?_)
                            refine q_iconst rfl rfl ?_
                            refine q_iand rfl rfl (q_tn (z := 1) rfl ?_)
                            refine q_ifne rfl rfl (fun c1452 => absurd c1452 (by decide)) (fun c1452 => ?_)
                            refine q_aload_n rfl rfl rfl ?_
                            refine q_getf rfl rfl (by decide) rfl rfl ?_
                            refine q_iconst rfl rfl ?_
                            refine q_iload rfl rfl rfl ?_
                            refine q_imul rfl rfl (q_tn (z := 0) rfl ?_)
                            refine q_iload rfl rfl rfl ?_
                            refine q_bipush rfl rfl ?_
                            refine q_idiv rfl rfl (by decide) (q_tn (z := 3) rfl ?_)
                            refine q_iadd rfl rfl (q_tn (z := 3) rfl ?_)
                            refine q_iald rfl rfl (by decide) rfl (by decide) (q_tn (z := 1) rfl ?_)
                            refine q_iload rfl rfl rfl ?_
                            refine q_bipush rfl rfl ?_
                            refine q_irem rfl rfl (by decide) (q_tn (z := 8) rfl ?_)
                            refine q_ishr rfl rfl (q_tn (z := 0) rfl ?_)
                            refine q_iconst rfl rfl ?_
                            refine q_iand rfl rfl (q_tn (z := 0) rfl ?_)
                            refine q_iconst rfl rfl ?_
                            refine q_icne rfl rfl (fun c1453 => absurd c1453 (by decide)) (fun c1453 => ?_)
                            refine q_icc6 (z := 1) rfl rfl rfl rfl rfl ?_
                            refine q_icc7 (z := 1) rfl rfl rfl rfl rfl ?_
                            refine q_goto rfl ?_
                            refine q_iload rfl rfl rfl ?_
                            refine q_iconst rfl rfl ?_
                            refine q_icge rfl rfl (fun c1454 => absurd c1454 (by decide)) (fun c1454 => ?_)
                            refine q_iload_n rfl rfl rfl ?_
                            refine q_iload rfl rfl rfl ?_
                            refine q_ishr rfl rfl (q_tn (z := 15) rfl ?_)
                            refine q_iconst rfl rfl ?_
                            refine q_iand rfl rfl (q_tn (z := 1) rfl ?_)
                            refine q_ifne rfl rfl (fun c1455 => absurd c1455 (by decide)) (fun c1455 => ?_)
                            refine q_aload_n rfl rfl rfl ?_
                            refine q_getf rfl rfl (by decide) rfl rfl ?_
                            refine q_iconst rfl rfl ?_
                            refine q_iload rfl rfl rfl ?_
                            refine q_imul rfl rfl (q_tn (z := 4) rfl ?_)
                            refine q_iload rfl rfl rfl ?_
                            refine q_bipush rfl rfl ?_
                            refine q_idiv rfl rfl (by decide) (q_tn (z := 3) rfl ?_)
                            refine q_iadd rfl rfl (q_tn (z := 7) rfl ?_)
                            refine q_iald rfl rfl (by decide) rfl (by decide) (q_tn (z := 1) rfl ?_)
                            refine q_iload rfl rfl rfl ?_
                            refine q_bipush rfl rfl ?_
                            refine q_irem rfl rfl (by decide) (q_tn (z := 8) rfl ?_)
                            refine q_ishr rfl rfl (q_tn (z := 0) rfl ?_)
                            refine q_iconst rfl rfl ?_
                            refine q_iand rfl rfl (q_tn (z := 0) rfl ?_)
                            refine q_iconst rfl rfl ?_
                            refine q_icne rfl rfl (fun c1456 => absurd c1456 (by decide)) (fun c1456 => ?_)
                            refine q_icc6 (z := 2) rfl rfl rfl rfl rfl ?_
                            refine q_icc7 (z := 2) rfl rfl rfl rfl rfl ?_
                            refine q_goto rfl ?_
                            refine q_iload rfl rfl rfl ?_
                            refine q_iconst rfl rfl ?_
                            refine q_icge rfl rfl (fun c1457 => absurd c1457 (by decide)) (fun c1457 => ?_)
                            refine q_iload_n rfl rfl rfl ?_
                            refine q_iload rfl rfl rfl ?_
                            refine q_ishr rfl rfl (q_tn (z := 7) rfl ?_)
                            refine q_iconst rfl rfl ?_
                            refine q_iand rfl rfl (q_tn (z := 1) rfl ?_)
                            refine q_ifne rfl rfl (fun c1458 => absurd c1458 (by decide)) (fun c1458 => ?_)
                            refine q_aload_n rfl rfl rfl ?_
                            refine q_getf rfl rfl (by decide) rfl rfl ?_
                            refine q_iconst rfl rfl ?_
                            refine q_iload rfl rfl rfl ?_
                            refine q_imul rfl rfl (q_tn (z := 8) rfl ?_)
                            refine q_iload rfl rfl rfl ?_
                            refine q_bipush rfl rfl ?_
                            refine q_idiv rfl rfl (by decide) (q_tn (z := 3) rfl ?_)
                            refine q_iadd rfl rfl (q_tn (z := 11) rfl ?_)
                            refine q_iald rfl rfl (by decide) rfl (by decide) (q_tn (z := 1) rfl ?_)
                            refine q_iload rfl rfl rfl ?_
                            refine q_bipush rfl rfl ?_
                            refine q_irem rfl rfl (by decide) (q_tn (z := 8) rfl ?_)
                            refine q_ishr rfl rfl (q_tn (z := 0) rfl ?_)
                            refine q_iconst rfl rfl ?_
                            refine q_iand rfl rfl (q_tn (z := 0) rfl ?_)
                            refine q_iconst rfl rfl ?_
                            refine q_icne rfl rfl (fun c1459 => absurd c1459 (by decide)) (fun c1459 => ?_)
                            refine q_icc6 (z := 3) rfl rfl rfl rfl rfl ?_
                            refine q_icc7 (z := 3) rfl rfl rfl rfl rfl ?_
                            refine q_goto rfl ?_
                            refine q_iload rfl rfl rfl ?_
                            refine q_iconst rfl rfl ?_
                            refine q_icge rfl rfl (fun c1460 => absurd c1460 (by decide)) (fun c1460 => ?_)
                            refine q_iload_n rfl rfl rfl ?_
                            refine q_iload rfl rfl rfl ?_
                            refine q_ishr rfl rfl (q_tn (z := 3) rfl ?_)
                            refine q_iconst rfl rfl ?_
                            refine q_iand rfl rfl (q_tn (z := 1) rfl ?_)
                            refine q_ifne rfl rfl (fun c1461 => absurd c1461 (by decide)) (fun c1461 => ?_)
                            refine q_aload_n rfl rfl rfl ?_
                            refine q_getf rfl rfl (by decide) rfl rfl ?_
                            refine q_iconst rfl rfl ?_
                            refine q_iload rfl rfl rfl ?_
                            refine q_imul rfl rfl (q_tn (z := 12) rfl ?_)
                            refine q_iload rfl rfl rfl ?_
                            refine q_bipush rfl rfl ?_
                            refine q_idiv rfl rfl (by decide) (q_tn (z := 3) rfl ?_)
                            refine q_iadd rfl rfl (q_tn (z := 15) rfl ?_)
                            refine q_iald rfl rfl (by decide) rfl (by decide) (q_tn (z := 1) rfl ?_)
                            refine q_iload rfl rfl rfl ?_
                            refine q_bipush rfl rfl ?_
                            refine q_irem rfl rfl (by decide) (q_tn (z := 8) rfl ?_)
                            refine q_ishr rfl rfl (q_tn (z := 0) rfl ?_)
                            refine q_iconst rfl rfl ?_
                            refine q_iand rfl rfl (q_tn (z := 0) rfl ?_)
                            refine q_iconst rfl rfl ?_
                            refine q_icne rfl rfl (fun c1462 => absurd c1462 (by decide)) (fun c1462 => ?_)
                            refine q_icc6 (z := 4) rfl rfl rfl rfl rfl ?_
                            refine q_icc7 (z := 4) rfl rfl rfl rfl rfl ?_
                            refine q_goto rfl ?_
                            refine q_iload rfl rfl rfl ?_
                            refine q_iconst rfl rfl ?_
                            refine q_icge rfl rfl (fun c1463 => absurd c1463 (by decide)) (fun c1463 => ?_)
                            refine q_iload_n rfl rfl rfl ?_
                            refine q_iload rfl rfl rfl ?_
                            refine q_ishr rfl rfl (q_tn (z := 1) rfl ?_)
                            refine q_iconst rfl rfl ?_
                            refine q_iand rfl rfl (q_tn (z := 1) rfl ?_)
                            refine q_ifne rfl rfl (fun c1464 => absurd c1464 (by decide)) (fun c1464 => ?_)
                            refine q_aload_n rfl rfl rfl ?_
                            refine q_getf rfl rfl (by decide) rfl rfl ?_
                            refine q_iconst rfl rfl ?_
                            refine q_iload rfl rfl rfl ?_
                            refine q_imul rfl rfl (q_tn (z := 16) rfl ?_)
                            refine q_iload rfl rfl rfl ?_
                            refine q_bipush rfl rfl ?_
                            refine q_idiv rfl rfl (by decide) (q_tn (z := 3) rfl ?_)
                            refine q_iadd rfl rfl (q_tn (z := 19) rfl ?_)
                            refine q_iald rfl rfl (by decide) rfl (by decide) (q_tn (z := 1) rfl ?_)
                            refine q_iload rfl rfl rfl ?_
                            refine q_bipush rfl rfl ?_
                            refine q_irem rfl rfl (by decide) (q_tn (z := 8) rfl ?_)
                            refine q_ishr rfl rfl (q_tn (z := 0) rfl ?_)
                            refine q_iconst rfl rfl ?_
                            refine q_iand rfl rfl (q_tn (z := 0) rfl ?_)
                            refine q_iconst rfl rfl ?_
                            refine q_icne rfl rfl (fun c1465 => absurd c1465 (by decide)) (fun c1465 => ?_)
                            refine q_icc6 (z := 5) rfl rfl rfl rfl rfl ?_
                            refine q_icc7 (z := 5) rfl rfl rfl rfl rfl ?_
                            refine q_goto rfl ?_
                            refine q_iload rfl rfl rfl ?_
                            refine q_iconst rfl rfl ?_
                            refine q_icge rfl rfl (fun c1466 => ?_) (fun c1466 => absurd (by decide) c1466)
                            refine q_iload rfl rfl rfl ?_
                            refine q_iload rfl rfl rfl ?_
                            refine q_icle rfl rfl (fun c1467 => ?_) (fun c1467 => absurd (by decide) c1467)
                            refine q_iload rfl rfl rfl ?_
                            refine q_ist7 rfl rfl rfl rfl ?_
                            refine q_aload_n rfl rfl rfl ?_
                            refine q_getf rfl rfl (by decide) rfl rfl ?_
                            refine q_iload rfl rfl rfl ?_
                            refine q_iald rfl rfl (by decide) ((FM_74 hM).trans (FW_74 S hW)) (by decide) (q_tn (z := (-2)) rfl ?_)
                            refine q_bipush rfl rfl ?_
                            refine q_icne rfl rfl (fun c1468 => ?_) (fun c1468 => absurd (by decide) c1468)
                            refine q_iload rfl rfl rfl ?_
                            refine q_iload_n rfl rfl rfl ?_
                            refine q_iclt rfl rfl (fun c1469 => absurd c1469 (by decide)) (fun c1469 => ?_)
                            refine q_goto rfl ?_
                            refine q_icc4 (z := 39) rfl rfl rfl rfl rfl ?_
                            refine q_goto rfl ?_
                            refine q_iload rfl rfl rfl ?_
                            refine q_bipush rfl rfl ?_
                            refine q_icge rfl rfl (fun c1470 => absurd c1470 (by decide)) (fun c1470 => ?_)
                            refine q_iconst rfl rfl ?_
                            refine q_ist5 rfl rfl rfl rfl ?_
                            refine q_iconst rfl rfl ?_
                            refine q_ist6 rfl rfl rfl rfl ?_
                            refine q_iconst rfl rfl ?_
                            refine q_ist7 rfl rfl rfl rfl ?_
                            refine q_iload rfl rfl rfl ?_
                            refine q_iconst rfl rfl ?_
                            refine q_icge rfl rfl (fun c1471 => absurd c1471 (by decide)) (fun c1471 => ?_)
                            refine q_iload_n rfl rfl rfl ?_
                            refine q_iload rfl rfl rfl ?_
                            refine q_ishr rfl rfl (q_tn (z := 31) rfl ?_)
                            refine q_iconst rfl rfl ?_
                            refine q_iand rfl rfl (q_tn (z := 1) rfl ?_)
                            refine q_ifne rfl rfl (fun c1472 => absurd c1472 (by decide)) (fun c1472 => ?_)
                            refine q_aload_n rfl rfl rfl ?_
                            refine q_getf rfl rfl (by decide) rfl rfl ?_
                            refine q_iconst rfl rfl ?_
                            refine q_iload rfl rfl rfl ?_
                            refine q_imul rfl rfl (q_tn (z := 0) rfl ?_)
                            refine q_iload rfl rfl rfl ?_
                            refine q_bipush rfl rfl ?_
                            refine q_idiv rfl rfl (by decide) (q_tn (z := 3) rfl ?_)
                            refine q_iadd rfl rfl (q_tn (z := 3) rfl ?_)
                            refine q_iald rfl rfl (by decide) rfl (by decide) (q_tn (z := 1) rfl ?_)
                            refine q_iload rfl rfl rfl ?_
                            refine q_bipush rfl rfl ?_
                            refine q_irem rfl rfl (by decide) (q_tn (z := 9) rfl ?_)
                            refine q_ishr rfl rfl (q_tn (z := 0) rfl ?_)
                            refine q_iconst rfl rfl ?_
                            refine q_iand rfl rfl (q_tn (z := 0) rfl ?_)
                            refine q_iconst rfl rfl ?_
                            refine q_icne rfl rfl (fun c1473 => absurd c1473 (by decide)) (fun c1473 => ?_)
                            refine q_icc6 (z := 1) rfl rfl rfl rfl rfl ?_
                            refine q_icc7 (z := 1) rfl rfl rfl rfl rfl ?_
                            refine q_goto rfl ?_
                            refine q_iload rfl rfl rfl ?_
                            refine q_iconst rfl rfl ?_
                            refine q_icge rfl rfl (fun c1474 => absurd c1474 (by decide)) (fun c1474 => ?_)
                            refine q_iload_n rfl rfl rfl ?_
                            refine q_iload rfl rfl rfl ?_
                            refine q_ishr rfl rfl (q_tn (z := 15) rfl ?_)
                            refine q_iconst rfl rfl ?_
                            refine q_iand rfl rfl (q_tn (z := 1) rfl ?_)
                            refine q_ifne rfl rfl (fun c1475 => absurd c1475 (by decide)) (fun c1475 => ?_)
                            refine q_aload_n rfl rfl rfl ?_
                            refine q_getf rfl rfl (by decide) rfl rfl ?_
                            refine q_iconst rfl rfl ?_
                            refine q_iload rfl rfl rfl ?_
                            refine q_imul rfl rfl (q_tn (z := 4) rfl ?_)
                            refine q_iload rfl rfl rfl ?_
                            refine q_bipush rfl rfl ?_
                            refine q_idiv rfl rfl (by decide) (q_tn (z := 3) rfl ?_)
                            refine q_iadd rfl rfl (q_tn (z := 7) rfl ?_)
                            refine q_iald rfl rfl (by decide) rfl (by decide) (q_tn (z := 1) rfl ?_)
                            refine q_iload rfl rfl rfl ?_
                            refine q_bipush rfl rfl ?_
                            refine q_irem rfl rfl (by decide) (q_tn (z := 9) rfl ?_)
                            refine q_ishr rfl rfl (q_tn (z := 0) rfl ?_)
                            refine q_iconst rfl rfl ?_
                            refine q_iand rfl rfl (q_tn (z := 0) rfl ?_)
                            refine q_iconst rfl rfl ?_
                            refine q_icne rfl rfl (fun c1476 => absurd c1476 (by decide)) (fun c1476 => ?_)
                            refine q_icc6 (z := 2) rfl rfl rfl rfl rfl ?_
                            refine q_icc7 (z := 2) rfl rfl rfl rfl rfl ?_
                            refine q_goto rfl ?_
                            refine q_iload rfl rfl rfl ?_
                            refine q_iconst rfl rfl ?_
                            refine q_icge rfl rfl (fun c1477 => absurd c1477 (by decide)) (fun c1477 => ?_)
                            refine q_iload_n rfl rfl rfl ?_
                            refine q_iload rfl rfl rfl ?_
                            refine q_ishr rfl rfl (q_tn (z := 7) rfl ?_)
                            refine q_iconst rfl rfl ?_
                            refine q_iand rfl rfl (q_tn (z := 1) rfl ?_)
                            refine q_ifne rfl rfl (fun c1478 => absurd c1478 (by decide)) (fun c1478 => ?_)
                            refine q_aload_n rfl rfl rfl ?_
                            refine q_getf rfl rfl (by decide) rfl rfl ?_
                            refine q_iconst rfl rfl ?_
                            refine q_iload rfl rfl rfl ?_
                            refine q_imul rfl rfl (q_tn (z := 8) rfl ?_)
                            refine q_iload rfl rfl rfl ?_
                            refine q_bipush rfl rfl ?_
                            refine q_idiv rfl rfl (by decide) (q_tn (z := 3) rfl ?_)
                            refine q_iadd rfl rfl (q_tn (z := 11) rfl ?_)
                            refine q_iald rfl rfl (by decide) rfl (by decide) (q_tn (z := 1) rfl ?_)
                            refine q_iload rfl rfl rfl ?_
                            refine q_bipush rfl rfl ?_
                            refine q_irem rfl rfl (by decide) (q_tn (z := 9) rfl ?_)
                            refine q_ishr rfl rfl (q_tn (z := 0) rfl ?_)
                            refine q_iconst rfl rfl ?_
                            refine q_iand rfl rfl (q_tn (z := 0) rfl ?_)
                            refine q_iconst rfl rfl ?_
                            refine q_icne rfl rfl (fun c1479 => absurd c1479 (by decide)) (fun c1479 => ?_)
                            refine q_icc6 (z := 3) rfl rfl rfl rfl rfl ?_
                            refine q_icc7 (z := 3) rfl rfl rfl rfl rfl ?_
                            refine q_goto rfl ?_
                            refine q_iload rfl rfl rfl ?_
                            refine q_iconst rfl rfl ?_
                            refine q_icge rfl rfl (fun c1480 => absurd c1480 (by decide)) (fun c1480 => ?_)
                            refine q_iload_n rfl rfl rfl ?_
                            refine q_iload rfl rfl rfl ?_
                            refine q_ishr rfl rfl (q_tn (z := 3) rfl ?_)
                            refine q_iconst rfl rfl ?_
                            refine q_iand rfl rfl (q_tn (z := 1) rfl ?_)
                            refine q_ifne rfl rfl (fun c1481 => absurd c1481 (by decide)) (fun c1481 => ?_)
                            refine q_aload_n rfl rfl rfl ?_
                            refine q_getf rfl rfl (by decide) rfl rfl ?_
                            refine q_iconst rfl rfl ?_
                            refine q_iload rfl rfl rfl ?_
                            refine q_imul rfl rfl (q_tn (z := 12) rfl ?_)
                            refine q_iload rfl rfl rfl ?_
                            refine q_bipush rfl rfl ?_
                            refine q_idiv rfl rfl (by decide) (q_tn (z := 3) rfl ?_)
                            refine q_iadd rfl rfl (q_tn (z := 15) rfl ?_)
                            refine q_iald rfl rfl (by decide) rfl (by decide) (q_tn (z := 1) rfl ?_)
                            refine q_iload rfl rfl rfl ?_
                            refine q_bipush rfl rfl ?_
                            refine q_irem rfl rfl (by decide) (q_tn (z := 9) rfl ?_)
                            refine q_ishr rfl rfl (q_tn (z := 0) rfl ?_)
                            refine q_iconst rfl rfl ?_
                            refine q_iand rfl rfl (q_tn (z := 0) rfl ?_)
                            refine q_iconst rfl rfl ?_
                            refine q_icne rfl rfl (fun c1482 => absurd c1482 (by decide)) (fun c1482 => ?_)
                            refine q_icc6 (z := 4) rfl rfl rfl rfl rfl ?_
                            refine q_icc7 (z := 4) rfl rfl rfl rfl rfl ?_
                            refine q_goto rfl ?_
                            refine q_iload rfl rfl rfl ?_
                            refine q_iconst rfl rfl ?_
                            refine q_icge rfl rfl (fun c1483 => absurd c1483 (by decide)) (fun c1483 => ?_)
                            refine q_iload_n rfl rfl rfl ?_
                            refine q_iload rfl rfl rfl ?_
                            refine q_ishr rfl rfl (q_tn (z := 1) rfl ?_)
                            refine q_iconst rfl rfl ?_
                            refine q_iand rfl rfl (q_tn (z := 1) rfl ?_)
                            refine q_ifne rfl rfl (fun c1484 => absurd c1484 (by decide)) (fun c1484 => ?_)
                            refine q_aload_n rfl rfl rfl ?_
                            refine q_getf rfl rfl (by decide) rfl rfl ?_
                            refine q_iconst rfl rfl ?_
                            refine q_iload rfl rfl rfl ?_
                            refine q_imul rfl rfl (q_tn (z := 16) rfl ?_)
                            refine q_iload rfl rfl rfl ?_
                            refine q_bipush rfl rfl ?_
                            refine q_idiv rfl rfl (by decide) (q_tn (z := 3) rfl ?_)
                            refine q_iadd rfl rfl (q_tn (z := 19) rfl ?_)
                            refine q_iald rfl rfl (by decide) rfl (by decide) (q_tn (z := 1) rfl ?_)
                            refine q_iload rfl rfl rfl ?_
                            refine q_bipush rfl rfl ?_
                            refine q_irem rfl rfl (by decide) (q_tn (z := 9) rfl ?_)
                            refine q_ishr rfl rfl (q_tn (z := 0) rfl ?_)
                            refine q_iconst rfl rfl ?_
                            refine q_iand rfl rfl (q_tn (z := 0) rfl ?_)
                            refine q_iconst rfl rfl ?_
                            refine q_icne rfl rfl (fun c1485 => absurd c1485 (by decide)) (fun c1485 => ?_)
                            refine q_icc6 (z := 5) rfl rfl rfl rfl rfl ?_
                            refine q_icc7 (z := 5) rfl rfl rfl rfl rfl ?_
                            refine q_goto rfl ?_
                            refine q_iload rfl rfl rfl ?_
                            refine q_iconst rfl rfl ?_
                            refine q_icge rfl rfl (fun c1486 => ?_) (fun c1486 => absurd (by decide) c1486)
                            refine q_iload rfl rfl rfl ?_
                            refine q_iload rfl rfl rfl ?_
                            refine q_icle rfl rfl (fun c1487 => ?_) (fun c1487 => absurd (by decide) c1487)
                            refine q_iload rfl rfl rfl ?_
                            refine q_ist7 rfl rfl rfl rfl ?_
                            refine q_aload_n rfl rfl rfl ?_
                            refine q_getf rfl rfl (by decide) rfl rfl ?_
                            refine q_iload rfl rfl rfl ?_
                            refine q_iald rfl rfl (by decide) ((FM_74 hM).trans (FW_74 S hW)) (by decide) (q_tn (z := (-2)) rfl ?_)
                            refine q_bipush rfl rfl ?_
                            refine q_icne rfl rfl (fun c1488 => ?_) (fun c1488 => absurd (by decide) c1488)
                            refine q_iload rfl rfl rfl ?_
                            refine q_iload_n rfl rfl rfl ?_
                            refine q_iclt rfl rfl (fun c1489 => absurd c1489 (by decide)) (fun c1489 => ?_)
                            refine q_goto rfl ?_
                            refine q_icc4 (z := 40) rfl rfl rfl rfl rfl ?_
                            refine q_goto rfl ?_
                            refine q_iload rfl rfl rfl ?_
                            refine q_bipush rfl rfl ?_
                            refine q_icge rfl rfl (fun c1490 => ?_) (fun c1490 => absurd (by decide) c1490)
                            refine q_iload_n rfl rfl rfl ?_
                            refine q_iret rfl rfl trivial ?_
                            refine ⟨_, rfl, ?_⟩
                            refine q_iceq rfl rfl (fun c1491 => ?_) (fun c1491 => absurd (by decide) c1491)
                            refine q_icc4 (z := 6) rfl rfl rfl rfl rfl ?_
                            refine q_goto rfl ?_
                            refine q_iload rfl rfl rfl ?_
                            refine q_aload_nF rfl rfl rfl ?_
                            refine q_alenX (x := 6) rfl rfl rfl ?_
                            refine q_bipush rfl rfl ?_
                            refine q_isub rfl rfl (q_tn (z := 0) rfl ?_)
                            refine q_icgt rfl rfl (fun c1492 => ?_) (fun c1492 => absurd (by decide) c1492)
                            refine q_iconst rfl rfl ?_
                            refine q_iret rfl rfl rfl ?_
                            exact hK _ _
end TR
