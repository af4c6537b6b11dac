section TR
variable {EX : pm_M → pm_C → (pm_C → Prop) → Prop} {xs : Nat → Int32} {K : q_K}
set_option maxHeartbeats 40000000 in
set_option maxRecDepth 20000 in
theorem t_op24 {S : Nat → pm_E} (hW : FW S) {x1 x2 x3 x4 x5 : Int32} (hx1 : xs 1 = x1) (hx2 : xs 2 = x2) (hx3 : xs 3 = x3) (hx4 : xs 4 = x4) (hx5 : xs 5 = x5) (hK : ∀ S n, K (some (.int 1)) S n) : PQ (j_SL 6) (j_SV xs) j_EX mm_L_law 1028 [.float 5, .ref 0, .ref 46, .ref 81, .int 0, pm_un, pm_un, pm_un] [] S 82 82 190091 K := by
  refine q_aload_n rfl rfl rfl ?_
  refine q_aload_nF rfl rfl rfl ?_
  refine q_iload rfl rfl rfl ?_
  refine q_iconst rfl rfl ?_
  refine q_iadd rfl rfl (q_tn (z := 1) rfl ?_)
  refine q_ialdX (x := x1) rfl rfl rfl hx1 ?_
  refine q_aload_nF rfl rfl rfl ?_
  refine q_iload rfl rfl rfl ?_
  refine q_iconst rfl rfl ?_
  refine q_iadd rfl rfl (q_tn (z := 2) rfl ?_)
  refine q_ialdX (x := x2) rfl rfl rfl hx2 ?_
  refine q_aload_nF rfl rfl rfl ?_
  refine q_iload rfl rfl rfl ?_
  refine q_iconst rfl rfl ?_
  refine q_iadd rfl rfl (q_tn (z := 3) rfl ?_)
  refine q_ialdX (x := x3) rfl rfl rfl hx3 ?_
  refine q_nV3A rfl rfl (Or.inl rfl) rfl rfl rfl (by decide) (FW_0 S hW) ⟨rfl, rfl⟩ rfl rfl rfl ?_
  change PQ _ _ _ mm_X11_make 0 [.ref 0, .int x1, .int x2, .int x3] [] _ _ 0 0 _
  refine q_iload_n rfl rfl rfl ?_
  refine q_bipush rfl rfl ?_
  refine q_nS2 rfl rfl (Or.inl rfl) rfl rfl ⟨rfl, rfl⟩ rfl ?_
  change PQ _ _ _ mm_X11_within 0 [.int x1, .int 8] [] _ _ 0 0 _
  refine q_iload_n rfl rfl rfl ?_
  refine q_iflt rfl rfl (fun c1 => ?_) (fun c1 => ?_)
  · refine q_iconst rfl rfl ?_
    refine q_iret rfl rfl rfl ?_
    refine ⟨_, rfl, ?_⟩
    refine q_ifeq rfl rfl (fun c2 => ?_) (fun c2 => absurd (by decide) c2)
    refine q_iconst rfl rfl ?_
    refine q_iret rfl rfl trivial ?_
    refine ⟨_, rfl, ?_⟩
    refine q_aload_n rfl rfl rfl ?_
    refine q_aload_nF rfl rfl rfl ?_
    refine q_iload rfl rfl rfl ?_
    refine q_iconst rfl rfl ?_
    refine q_iadd rfl rfl (q_tn (z := 1) rfl ?_)
    refine q_ialdX (x := x1) rfl rfl rfl hx1 ?_
    refine q_aload_nF rfl rfl rfl ?_
    refine q_iload rfl rfl rfl ?_
    refine q_iconst rfl rfl ?_
    refine q_iadd rfl rfl (q_tn (z := 2) rfl ?_)
    refine q_ialdX (x := x2) rfl rfl rfl hx2 ?_
    refine q_aload_nF rfl rfl rfl ?_
    refine q_iload rfl rfl rfl ?_
    refine q_iconst rfl rfl ?_
    refine q_iadd rfl rfl (q_tn (z := 3) rfl ?_)
    refine q_ialdX (x := x3) rfl rfl rfl hx3 ?_
    refine q_nV3 rfl rfl (Or.inl rfl) rfl rfl rfl (by decide) (FW_46 S hW) ⟨rfl, rfl⟩ rfl ?_
    change PQ _ _ _ mm_X12_make 0 [.ref 46, .int x1, .int x2, .int x3] [] _ _ 0 0 _
    refine q_aload_n rfl rfl rfl ?_
    refine q_iload_n rfl rfl rfl ?_
    refine q_nV1 rfl rfl (Or.inl rfl) rfl rfl rfl (by decide) (FW_46 S hW) ⟨rfl, rfl⟩ rfl ?_
    change PQ _ _ _ mm_X12_isShelf 0 [.ref 46, .int x1] [] _ _ 0 0 _
    refine q_aload_n rfl rfl rfl ?_
    refine q_iload_n rfl rfl rfl ?_
    refine q_iconst rfl rfl ?_
    refine q_bipush rfl rfl ?_
    refine q_nV3 rfl rfl (Or.inl rfl) rfl rfl rfl (by decide) (FW_46 S hW) ⟨rfl, rfl⟩ rfl ?_
    change PQ _ _ _ mm_X12_in 0 [.ref 46, .int x1, .int 0, .int 7] [] _ _ 0 0 _
    refine q_iload_n rfl rfl rfl ?_
    refine q_iload_n rfl rfl rfl ?_
    refine q_iclt rfl rfl (fun c3 => ?_) (fun c3 => absurd (i_lt_t (i_ltle c1 (B := (-1)) rfl) rfl) c3)
    refine q_iconst rfl rfl ?_
    refine q_iret rfl rfl rfl ?_
    refine ⟨_, rfl, ?_⟩
    refine q_iret rfl rfl rfl ?_
    refine ⟨_, rfl, ?_⟩
    refine q_ifeq rfl rfl (fun c4 => ?_) (fun c4 => absurd (by decide) c4)
    refine q_iconst rfl rfl ?_
    refine q_iret rfl rfl trivial ?_
    refine ⟨_, rfl, ?_⟩
    refine q_iceq rfl rfl (fun c5 => ?_) (fun c5 => absurd (by decide) c5)
    refine q_icc4 (z := 6) rfl rfl rfl rfl rfl ?_
    refine q_goto rfl ?_
    refine q_iload rfl rfl rfl ?_
    refine q_aload_nF rfl rfl rfl ?_
    refine q_alenX (x := 6) rfl rfl rfl ?_
    refine q_bipush rfl rfl ?_
    refine q_isub rfl rfl (q_tn (z := 0) rfl ?_)
    refine q_icgt rfl rfl (fun c6 => ?_) (fun c6 => absurd (by decide) c6)
    refine q_iconst rfl rfl ?_
    refine q_iret rfl rfl rfl ?_
    exact hK _ _
  · refine q_iload_n rfl rfl rfl ?_
    refine q_iload_n rfl rfl rfl ?_
    refine q_icge rfl rfl (fun c7 => ?_) (fun c7 => ?_)
    · refine q_iconst rfl rfl ?_
      refine q_iret rfl rfl rfl ?_
      refine ⟨_, rfl, ?_⟩
      refine q_ifeq rfl rfl (fun c8 => ?_) (fun c8 => absurd (by decide) c8)
      refine q_iconst rfl rfl ?_
      refine q_iret rfl rfl trivial ?_
      refine ⟨_, rfl, ?_⟩
      refine q_aload_n rfl rfl rfl ?_
      refine q_aload_nF rfl rfl rfl ?_
      refine q_iload rfl rfl rfl ?_
      refine q_iconst rfl rfl ?_
      refine q_iadd rfl rfl (q_tn (z := 1) rfl ?_)
      refine q_ialdX (x := x1) rfl rfl rfl hx1 ?_
      refine q_aload_nF rfl rfl rfl ?_
      refine q_iload rfl rfl rfl ?_
      refine q_iconst rfl rfl ?_
      refine q_iadd rfl rfl (q_tn (z := 2) rfl ?_)
      refine q_ialdX (x := x2) rfl rfl rfl hx2 ?_
      refine q_aload_nF rfl rfl rfl ?_
      refine q_iload rfl rfl rfl ?_
      refine q_iconst rfl rfl ?_
      refine q_iadd rfl rfl (q_tn (z := 3) rfl ?_)
      refine q_ialdX (x := x3) rfl rfl rfl hx3 ?_
      refine q_nV3 rfl rfl (Or.inl rfl) rfl rfl rfl (by decide) (FW_46 S hW) ⟨rfl, rfl⟩ rfl ?_
      change PQ _ _ _ mm_X12_make 0 [.ref 46, .int x1, .int x2, .int x3] [] _ _ 0 0 _
      refine q_aload_n rfl rfl rfl ?_
      refine q_iload_n rfl rfl rfl ?_
      refine q_nV1 rfl rfl (Or.inl rfl) rfl rfl rfl (by decide) (FW_46 S hW) ⟨rfl, rfl⟩ rfl ?_
      change PQ _ _ _ mm_X12_isShelf 0 [.ref 46, .int x1] [] _ _ 0 0 _
      refine q_aload_n rfl rfl rfl ?_
      refine q_iload_n rfl rfl rfl ?_
      refine q_iconst rfl rfl ?_
      refine q_bipush rfl rfl ?_
      refine q_nV3 rfl rfl (Or.inl rfl) rfl rfl rfl (by decide) (FW_46 S hW) ⟨rfl, rfl⟩ rfl ?_
      change PQ _ _ _ mm_X12_in 0 [.ref 46, .int x1, .int 0, .int 7] [] _ _ 0 0 _
      refine q_iload_n rfl rfl rfl ?_
      refine q_iload_n rfl rfl rfl ?_
      refine q_iclt rfl rfl (fun c9 => absurd c9 (i_lt_f c7 rfl)) (fun c9 => ?_)
      refine q_iload_n rfl rfl rfl ?_
      refine q_iload_n rfl rfl rfl ?_
      refine q_icgt rfl rfl (fun c10 => ?_) (fun c10 => absurd (i_gt_t c7 rfl) c10)
      refine q_iconst rfl rfl ?_
      refine q_iret rfl rfl rfl ?_
      refine ⟨_, rfl, ?_⟩
      refine q_iret rfl rfl rfl ?_
      refine ⟨_, rfl, ?_⟩
      refine q_ifeq rfl rfl (fun c11 => ?_) (fun c11 => absurd (by decide) c11)
      refine q_iconst rfl rfl ?_
      refine q_iret rfl rfl trivial ?_
      refine ⟨_, rfl, ?_⟩
      refine q_iceq rfl rfl (fun c12 => ?_) (fun c12 => absurd (by decide) c12)
      refine q_icc4 (z := 6) rfl rfl rfl rfl rfl ?_
      refine q_goto rfl ?_
      refine q_iload rfl rfl rfl ?_
      refine q_aload_nF rfl rfl rfl ?_
      refine q_alenX (x := 6) rfl rfl rfl ?_
      refine q_bipush rfl rfl ?_
      refine q_isub rfl rfl (q_tn (z := 0) rfl ?_)
      refine q_icgt rfl rfl (fun c13 => ?_) (fun c13 => absurd (by decide) c13)
      refine q_iconst rfl rfl ?_
      refine q_iret rfl rfl rfl ?_
      exact hK _ _
    · refine q_iconst rfl rfl ?_
      refine q_goto rfl ?_
      refine q_iret rfl rfl rfl ?_
      refine ⟨_, rfl, ?_⟩
      refine q_ifeq rfl rfl (fun c14 => absurd c14 (by decide)) (fun c14 => ?_)
      refine q_iload_n rfl rfl rfl ?_
      refine q_iconst rfl rfl ?_
      refine q_iceq rfl rfl (fun c15 => ?_) (fun c15 => ?_)
      · subst c15
        refine q_iload_n rfl rfl rfl ?_
        refine q_bipush rfl rfl ?_
        refine q_icle rfl rfl (fun c16 => ?_) (fun c16 => ?_)
        · refine q_iload_n rfl rfl rfl ?_
          refine q_ifge rfl rfl (fun c17 => ?_) (fun c17 => ?_)
          · refine q_aload_n rfl rfl rfl ?_
            refine q_getf rfl rfl (by decide) (FW_0 S hW) rfl ?_
            refine q_iload_n rfl rfl rfl ?_
            refine q_iload_n rfl rfl rfl ?_
            refine q_iconst rfl rfl ?_
            refine q_icne rfl rfl (fun c18 => ?_) (fun c18 => absurd (by decide) c18)
            refine q_new rfl rfl rfl rfl ?_
            refine q_dupr rfl rfl ?_
            refine q_iload_n rfl rfl rfl ?_
            refine q_nI1vA rfl rfl (Or.inl rfl) rfl rfl ⟨rfl, rfl⟩ rfl rfl rfl ?_
            change PQ _ _ _ mm_X4_init 0 [.ref 82, .int x3] [] _ _ 0 0 _
            refine q_aload_n rfl rfl rfl ?_
            refine q_nI0v rfl rfl (Or.inr rfl) rfl rfl ⟨rfl, rfl⟩ rfl ?_
            change PQ _ _ _ mm_X2_init 0 [.ref 82] [] _ _ 0 0 _
            refine q_aload_n rfl rfl rfl ?_
            refine q_objI rfl rfl rfl ?_
            refine q_ret rfl rfl ?_
            refine ⟨rfl, ?_⟩
            refine q_aload_n rfl rfl rfl ?_
            refine q_iload_n rfl rfl rfl ?_
            refine q_iconst rfl rfl ?_
            refine q_mmax (z := x3) rfl om_lr rfl rfl (if_neg (i_lt_f c17 rfl)) ?_
            refine q_newa rfl rfl (i_lt_f c17 rfl) rfl (i_b8 c17 c16 rfl) rfl (i_bs c17 c16 rfl) ?_
            refine q_putf rfl rfl (by decide) rfl (by decide) rfl trivial ?_
            refine q_ret rfl rfl ?_
            refine ⟨rfl, ?_⟩
            refine q_goto rfl ?_
            rcases i_en7 (i_nlt c1) (i_ltle (i_nle c7) (B := 7) rfl) with rfl | rfl | rfl | rfl | rfl | rfl | rfl | rfl
            · refine q_aast rfl rfl (by decide) (by decide) (FW_43 S hW) rfl rfl (by decide) ?_
              refine q_iconst rfl rfl ?_
              refine q_iret rfl rfl trivial ?_
              refine ⟨_, rfl, ?_⟩
              refine q_aload_n rfl rfl rfl ?_
              refine q_aload_nF rfl rfl rfl ?_
              refine q_iload rfl rfl rfl ?_
              refine q_iconst rfl rfl ?_
              refine q_iadd rfl rfl (q_tn (z := 1) rfl ?_)
              refine q_ialdX (x := 0) rfl rfl rfl hx1 ?_
              refine q_aload_nF rfl rfl rfl ?_
              refine q_iload rfl rfl rfl ?_
              refine q_iconst rfl rfl ?_
              refine q_iadd rfl rfl (q_tn (z := 2) rfl ?_)
              refine q_ialdX (x := 3) rfl rfl rfl hx2 ?_
              refine q_aload_nF rfl rfl rfl ?_
              refine q_iload rfl rfl rfl ?_
              refine q_iconst rfl rfl ?_
              refine q_iadd rfl rfl (q_tn (z := 3) rfl ?_)
              refine q_ialdX (x := x3) rfl rfl rfl hx3 ?_
              refine q_nV3 rfl rfl (Or.inl rfl) rfl rfl rfl (by decide) (FW_46 S hW) ⟨rfl, rfl⟩ rfl ?_
              change PQ _ _ _ mm_X12_make 0 [.ref 46, .int 0, .int 3, .int x3] [] _ _ 0 0 _
              refine q_aload_n rfl rfl rfl ?_
              refine q_iload_n rfl rfl rfl ?_
              refine q_nV1 rfl rfl (Or.inl rfl) rfl rfl rfl (by decide) (FW_46 S hW) ⟨rfl, rfl⟩ rfl ?_
              change PQ _ _ _ mm_X12_isShelf 0 [.ref 46, .int 0] [] _ _ 0 0 _
              refine q_aload_n rfl rfl rfl ?_
              refine q_iload_n rfl rfl rfl ?_
              refine q_iconst rfl rfl ?_
              refine q_bipush rfl rfl ?_
              refine q_nV3 rfl rfl (Or.inl rfl) rfl rfl rfl (by decide) (FW_46 S hW) ⟨rfl, rfl⟩ rfl ?_
              change PQ _ _ _ mm_X12_in 0 [.ref 46, .int 0, .int 0, .int 7] [] _ _ 0 0 _
              refine q_iload_n rfl rfl rfl ?_
              refine q_iload_n rfl rfl rfl ?_
              refine q_iclt rfl rfl (fun c19 => absurd c19 (by decide)) (fun c19 => ?_)
              refine q_iload_n rfl rfl rfl ?_
              refine q_iload_n rfl rfl rfl ?_
              refine q_icgt rfl rfl (fun c20 => absurd c20 (by decide)) (fun c20 => ?_)
              refine q_iconst rfl rfl ?_
              refine q_goto rfl ?_
              refine q_iret rfl rfl rfl ?_
              refine ⟨_, rfl, ?_⟩
              refine q_iret rfl rfl rfl ?_
              refine ⟨_, rfl, ?_⟩
              refine q_ifeq rfl rfl (fun c21 => absurd c21 (by decide)) (fun c21 => ?_)
              refine q_aload_n rfl rfl rfl ?_
              refine q_iload_n rfl rfl rfl ?_
              refine q_iconst rfl rfl ?_
              refine q_iconst rfl rfl ?_
              refine q_nV3 rfl rfl (Or.inl rfl) rfl rfl rfl (by decide) (FW_46 S hW) ⟨rfl, rfl⟩ rfl ?_
              change PQ _ _ _ mm_X12_in 0 [.ref 46, .int 3, .int 3, .int 4] [] _ _ 0 0 _
              refine q_iload_n rfl rfl rfl ?_
              refine q_iload_n rfl rfl rfl ?_
              refine q_iclt rfl rfl (fun c22 => absurd c22 (by decide)) (fun c22 => ?_)
              refine q_iload_n rfl rfl rfl ?_
              refine q_iload_n rfl rfl rfl ?_
              refine q_icgt rfl rfl (fun c23 => absurd c23 (by decide)) (fun c23 => ?_)
              refine q_iconst rfl rfl ?_
              refine q_goto rfl ?_
              refine q_iret rfl rfl rfl ?_
              refine ⟨_, rfl, ?_⟩
              refine q_ifeq rfl rfl (fun c24 => absurd c24 (by decide)) (fun c24 => ?_)
              refine q_iload_n rfl rfl rfl ?_
              refine q_bipush rfl rfl ?_
              refine q_icle rfl rfl (fun c25 => ?_) (fun c25 => absurd (i_le_t c16 rfl) c25)
              refine q_iload_n rfl rfl rfl ?_
              refine q_ifge rfl rfl (fun c26 => ?_) (fun c26 => absurd (i_ge_t c17 rfl) c26)
              refine q_aload_n rfl rfl rfl ?_
              refine q_getf rfl rfl (by decide) (FW_46 S hW) rfl ?_
              refine q_iload_n rfl rfl rfl ?_
              refine q_iload_n rfl rfl rfl ?_
              refine q_iast rfl rfl (by decide) (FW_75 S hW) (by decide) ?_
              refine q_aload_n rfl rfl rfl ?_
              refine q_getf rfl rfl (by decide) (FW_46 S hW) rfl ?_
              refine q_iload_n rfl rfl rfl ?_
              refine q_iload_n rfl rfl rfl ?_
              refine q_iast rfl rfl (by decide) (FW_78 S hW) (by decide) ?_
              refine q_aload_n rfl rfl rfl ?_
              refine q_iload_n rfl rfl rfl ?_
              refine q_nV1v rfl rfl (Or.inl rfl) rfl rfl rfl (by decide) (FW_46 S hW) ⟨rfl, rfl⟩ rfl ?_
              change PQ _ _ _ mm_X12_clear 0 [.ref 46, .int 0, pm_un] [] _ _ 0 0 _
              refine q_iconst rfl rfl ?_
              refine q_ist2n rfl rfl rfl rfl ?_
              refine q_iload_n rfl rfl rfl ?_
              refine q_bipush rfl rfl ?_
              refine q_icge rfl rfl (fun c27 => absurd c27 (by decide)) (fun c27 => ?_)
              refine q_aload_n rfl rfl rfl ?_
              refine q_getf rfl rfl (by decide) (FW_46 S hW) rfl ?_
              refine q_bipush rfl rfl ?_
              refine q_iload_n rfl rfl rfl ?_
              refine q_imul rfl rfl (q_tn (z := 0) rfl ?_)
              refine q_iload_n rfl rfl rfl ?_
              refine q_iadd rfl rfl (q_tn (z := 0) rfl ?_)
              refine q_lconst rfl rfl ?_
              refine q_last rfl rfl (by decide) (FW_79 S hW) (by decide) ?_
              refine q_icc2 (z := 1) rfl rfl rfl rfl rfl ?_
              refine q_goto rfl ?_
              refine q_iload_n rfl rfl rfl ?_
              refine q_bipush rfl rfl ?_
              refine q_icge rfl rfl (fun c28 => absurd c28 (by decide)) (fun c28 => ?_)
              refine q_aload_n rfl rfl rfl ?_
              refine q_getf rfl rfl (by decide) (FW_46 S hW) rfl ?_
              refine q_bipush rfl rfl ?_
              refine q_iload_n rfl rfl rfl ?_
              refine q_imul rfl rfl (q_tn (z := 0) rfl ?_)
              refine q_iload_n rfl rfl rfl ?_
              refine q_iadd rfl rfl (q_tn (z := 1) rfl ?_)
              refine q_lconst rfl rfl ?_
              refine q_last rfl rfl (by decide) rfl (by decide) ?_
              refine q_icc2 (z := 2) rfl rfl rfl rfl rfl ?_
              refine q_goto rfl ?_
              refine q_iload_n rfl rfl rfl ?_
              refine q_bipush rfl rfl ?_
              refine q_icge rfl rfl (fun c29 => absurd c29 (by decide)) (fun c29 => ?_)
              refine q_aload_n rfl rfl rfl ?_
              refine q_getf rfl rfl (by decide) (FW_46 S hW) rfl ?_
              refine q_bipush rfl rfl ?_
              refine q_iload_n rfl rfl rfl ?_
              refine q_imul rfl rfl (q_tn (z := 0) rfl ?_)
              refine q_iload_n rfl rfl rfl ?_
              refine q_iadd rfl rfl (q_tn (z := 2) rfl ?_)
              refine q_lconst rfl rfl ?_
              refine q_last rfl rfl (by decide) rfl (by decide) ?_
              refine q_icc2 (z := 3) rfl rfl rfl rfl rfl ?_
              refine q_goto rfl ?_
              refine q_iload_n rfl rfl rfl ?_
              refine q_bipush rfl rfl ?_
              refine q_icge rfl rfl (fun c30 => absurd c30 (by decide)) (fun c30 => ?_)
              refine q_aload_n rfl rfl rfl ?_
              refine q_getf rfl rfl (by decide) (FW_46 S hW) rfl ?_
              refine q_bipush rfl rfl ?_
              refine q_iload_n rfl rfl rfl ?_
              refine q_imul rfl rfl (q_tn (z := 0) rfl ?_)
              refine q_iload_n rfl rfl rfl ?_
              refine q_iadd rfl rfl (q_tn (z := 3) rfl ?_)
              refine q_lconst rfl rfl ?_
              refine q_last rfl rfl (by decide) rfl (by decide) ?_
              refine q_icc2 (z := 4) rfl rfl rfl rfl rfl ?_
              refine q_goto rfl ?_
              refine q_iload_n rfl rfl rfl ?_
              refine q_bipush rfl rfl ?_
              refine q_icge rfl rfl (fun c31 => absurd c31 (by decide)) (fun c31 => ?_)
              refine q_aload_n rfl rfl rfl ?_
              refine q_getf rfl rfl (by decide) (FW_46 S hW) rfl ?_
              refine q_bipush rfl rfl ?_
              refine q_iload_n rfl rfl rfl ?_
              refine q_imul rfl rfl (q_tn (z := 0) rfl ?_)
              refine q_iload_n rfl rfl rfl ?_
              refine q_iadd rfl rfl (q_tn (z := 4) rfl ?_)
              refine q_lconst rfl rfl ?_
              refine q_last rfl rfl (by decide) rfl (by decide) ?_
              refine q_icc2 (z := 5) rfl rfl rfl rfl rfl ?_
              refine q_goto rfl ?_
              refine q_iload_n rfl rfl rfl ?_
              refine q_bipush rfl rfl ?_
              refine q_icge rfl rfl (fun c32 => absurd c32 (by decide)) (fun c32 => ?_)
              refine q_aload_n rfl rfl rfl ?_
              refine q_getf rfl rfl (by decide) (FW_46 S hW) rfl ?_
              refine q_bipush rfl rfl ?_
              refine q_iload_n rfl rfl rfl ?_
              refine q_imul rfl rfl (q_tn (z := 0) rfl ?_)
              refine q_iload_n rfl rfl rfl ?_
              refine q_iadd rfl rfl (q_tn (z := 5) rfl ?_)
              refine q_lconst rfl rfl ?_
              refine q_last rfl rfl (by decide) rfl (by decide) ?_
              refine q_icc2 (z := 6) rfl rfl rfl rfl rfl ?_
              refine q_goto rfl ?_
              refine q_iload_n rfl rfl rfl ?_
              refine q_bipush rfl rfl ?_
              refine q_icge rfl rfl (fun c33 => absurd c33 (by decide)) (fun c33 => ?_)
              refine q_aload_n rfl rfl rfl ?_
              refine q_getf rfl rfl (by decide) (FW_46 S hW) rfl ?_
              refine q_bipush rfl rfl ?_
              refine q_iload_n rfl rfl rfl ?_
              refine q_imul rfl rfl (q_tn (z := 0) rfl ?_)
              refine q_iload_n rfl rfl rfl ?_
              refine q_iadd rfl rfl (q_tn (z := 6) rfl ?_)
              refine q_lconst rfl rfl ?_
              refine q_last rfl rfl (by decide) rfl (by decide) ?_
              refine q_icc2 (z := 7) rfl rfl rfl rfl rfl ?_
              refine q_goto rfl ?_
              refine q_iload_n rfl rfl rfl ?_
              refine q_bipush rfl rfl ?_
              refine q_icge rfl rfl (fun c34 => absurd c34 (by decide)) (fun c34 => ?_)
              refine q_aload_n rfl rfl rfl ?_
              refine q_getf rfl rfl (by decide) (FW_46 S hW) rfl ?_
              refine q_bipush rfl rfl ?_
              refine q_iload_n rfl rfl rfl ?_
              refine q_imul rfl rfl (q_tn (z := 0) rfl ?_)
              refine q_iload_n rfl rfl rfl ?_
              refine q_iadd rfl rfl (q_tn (z := 7) rfl ?_)
              refine q_lconst rfl rfl ?_
              refine q_last rfl rfl (by decide) rfl (by decide) ?_
              refine q_icc2 (z := 8) rfl rfl rfl rfl rfl ?_
              refine q_goto rfl ?_
              refine q_iload_n rfl rfl rfl ?_
              refine q_bipush rfl rfl ?_
              refine q_icge rfl rfl (fun c35 => absurd c35 (by decide)) (fun c35 => ?_)
              refine q_aload_n rfl rfl rfl ?_
              refine q_getf rfl rfl (by decide) (FW_46 S hW) rfl ?_
              refine q_bipush rfl rfl ?_
              refine q_iload_n rfl rfl rfl ?_
              refine q_imul rfl rfl (q_tn (z := 0) rfl ?_)
              refine q_iload_n rfl rfl rfl ?_
              refine q_iadd rfl rfl (q_tn (z := 8) rfl ?_)
              refine q_lconst rfl rfl ?_
              refine q_last rfl rfl (by decide) rfl (by decide) ?_
              refine q_icc2 (z := 9) rfl rfl rfl rfl rfl ?_
              refine q_goto rfl ?_
              refine q_iload_n rfl rfl rfl ?_
              refine q_bipush rfl rfl ?_
              refine q_icge rfl rfl (fun c36 => absurd c36 (by decide)) (fun c36 => ?_)
              refine q_aload_n rfl rfl rfl ?_
              refine q_getf rfl rfl (by decide) (FW_46 S hW) rfl ?_
              refine q_bipush rfl rfl ?_
              refine q_iload_n rfl rfl rfl ?_
              refine q_imul rfl rfl (q_tn (z := 0) rfl ?_)
              refine q_iload_n rfl rfl rfl ?_
              refine q_iadd rfl rfl (q_tn (z := 9) rfl ?_)
              refine q_lconst rfl rfl ?_
              refine q_last rfl rfl (by decide) rfl (by decide) ?_
              refine q_icc2 (z := 10) rfl rfl rfl rfl rfl ?_
              refine q_goto rfl ?_
              refine q_iload_n rfl rfl rfl ?_
              refine q_bipush rfl rfl ?_
              refine q_icge rfl rfl (fun c37 => absurd c37 (by decide)) (fun c37 => ?_)
              refine q_aload_n rfl rfl rfl ?_
              refine q_getf rfl rfl (by decide) (FW_46 S hW) rfl ?_
              refine q_bipush rfl rfl ?_
              refine q_iload_n rfl rfl rfl ?_
              refine q_imul rfl rfl (q_tn (z := 0) rfl ?_)
              refine q_iload_n rfl rfl rfl ?_
              refine q_iadd rfl rfl (q_tn (z := 10) rfl ?_)
              refine q_lconst rfl rfl ?_
              refine q_last rfl rfl (by decide) rfl (by decide) ?_
              refine q_icc2 (z := 11) rfl rfl rfl rfl rfl ?_
              refine q_goto rfl ?_
              refine q_iload_n rfl rfl rfl ?_
              refine q_bipush rfl rfl ?_
              refine q_icge rfl rfl (fun c38 => absurd c38 (by decide)) (fun c38 => ?_)
              refine q_aload_n rfl rfl rfl ?_
              refine q_getf rfl rfl (by decide) (FW_46 S hW) rfl ?_
              refine q_bipush rfl rfl ?_
              refine q_iload_n rfl rfl rfl ?_
              refine q_imul rfl rfl (q_tn (z := 0) rfl ?_)
              refine q_iload_n rfl rfl rfl ?_
              refine q_iadd rfl rfl (q_tn (z := 11) rfl ?_)
              refine q_lconst rfl rfl ?_
              refine q_last rfl rfl (by decide) rfl (by decide) ?_
              refine q_icc2 (z := 12) rfl rfl rfl rfl rfl ?_
              refine q_goto rfl ?_
              refine q_iload_n rfl rfl rfl ?_
              refine q_bipush rfl rfl ?_
              refine q_icge rfl rfl (fun c39 => absurd c39 (by decide)) (fun c39 => ?_)
              refine q_aload_n rfl rfl rfl ?_
              refine q_getf rfl rfl (by decide) (FW_46 S hW) rfl ?_
              refine q_bipush rfl rfl ?_
              refine q_iload_n rfl rfl rfl ?_
              refine q_imul rfl rfl (q_tn (z := 0) rfl ?_)
              refine q_iload_n rfl rfl rfl ?_
              refine q_iadd rfl rfl (q_tn (z := 12) rfl ?_)
              refine q_lconst rfl rfl ?_
              refine q_last rfl rfl (by decide) rfl (by decide) ?_
              refine q_icc2 (z := 13) rfl rfl rfl rfl rfl ?_
              refine q_goto rfl ?_
              refine q_iload_n rfl rfl rfl ?_
              refine q_bipush rfl rfl ?_
              refine q_icge rfl rfl (fun c40 => absurd c40 (by decide)) (fun c40 => ?_)
              refine q_aload_n rfl rfl rfl ?_
              refine q_getf rfl rfl (by decide) (FW_46 S hW) rfl ?_
              refine q_bipush rfl rfl ?_
              refine q_iload_n rfl rfl rfl ?_
              refine q_imul rfl rfl (q_tn (z := 0) rfl ?_)
              refine q_iload_n rfl rfl rfl ?_
              refine q_iadd rfl rfl (q_tn (z := 13) rfl ?_)
              refine q_lconst rfl rfl ?_
              refine q_last rfl rfl (by decide) rfl (by decide) ?_
              refine q_icc2 (z := 14) rfl rfl rfl rfl rfl ?_
              refine q_goto rfl ?_
              refine q_iload_n rfl rfl rfl ?_
              refine q_bipush rfl rfl ?_
              refine q_icge rfl rfl (fun c41 => absurd c41 (by decide)) (fun c41 => ?_)
              refine q_aload_n rfl rfl rfl ?_
              refine q_getf rfl rfl (by decide) (FW_46 S hW) rfl ?_
              refine q_bipush rfl rfl ?_
              refine q_iload_n rfl rfl rfl ?_
              refine q_imul rfl rfl (q_tn (z := 0) rfl ?_)
              refine q_iload_n rfl rfl rfl ?_
              refine q_iadd rfl rfl (q_tn (z := 14) rfl ?_)
              refine q_lconst rfl rfl ?_
              refine q_last rfl rfl (by decide) rfl (by decide) ?_
              refine q_icc2 (z := 15) rfl rfl rfl rfl rfl ?_
              refine q_goto rfl ?_
              refine q_iload_n rfl rfl rfl ?_
              refine q_bipush rfl rfl ?_
              refine q_icge rfl rfl (fun c42 => absurd c42 (by decide)) (fun c42 => ?_)
              refine q_aload_n rfl rfl rfl ?_
              refine q_getf rfl rfl (by decide) (FW_46 S hW) rfl ?_
              refine q_bipush rfl rfl ?_
              refine q_iload_n rfl rfl rfl ?_
              refine q_imul rfl rfl (q_tn (z := 0) rfl ?_)
              refine q_iload_n rfl rfl rfl ?_
              refine q_iadd rfl rfl (q_tn (z := 15) rfl ?_)
              refine q_lconst rfl rfl ?_
              refine q_last rfl rfl (by decide) rfl (by decide) ?_
              refine q_icc2 (z := 16) rfl rfl rfl rfl rfl ?_
              refine q_goto rfl ?_
              refine q_iload_n rfl rfl rfl ?_
              refine q_bipush rfl rfl ?_
              refine q_icge rfl rfl (fun c43 => absurd c43 (by decide)) (fun c43 => ?_)
              refine q_aload_n rfl rfl rfl ?_
              refine q_getf rfl rfl (by decide) (FW_46 S hW) rfl ?_
              refine q_bipush rfl rfl ?_
              refine q_iload_n rfl rfl rfl ?_
              refine q_imul rfl rfl (q_tn (z := 0) rfl ?_)
              refine q_iload_n rfl rfl rfl ?_
              refine q_iadd rfl rfl (q_tn (z := 16) rfl ?_)
              refine q_lconst rfl rfl ?_
              refine q_last rfl rfl (by decide) rfl (by decide) ?_
              refine q_icc2 (z := 17) rfl rfl rfl rfl rfl ?_
              refine q_goto rfl ?_
              refine q_iload_n rfl rfl rfl ?_
              refine q_bipush rfl rfl ?_
              refine q_icge rfl rfl (fun c44 => absurd c44 (by decide)) (fun c44 => ?_)
              refine q_aload_n rfl rfl rfl ?_
              refine q_getf rfl rfl (by decide) (FW_46 S hW) rfl ?_
              refine q_bipush rfl rfl ?_
              refine q_iload_n rfl rfl rfl ?_
              refine q_imul rfl rfl (q_tn (z := 0) rfl ?_)
              refine q_iload_n rfl rfl rfl ?_
              refine q_iadd rfl rfl (q_tn (z := 17) rfl ?_)
              refine q_lconst rfl rfl ?_
              refine q_last rfl rfl (by decide) rfl (by decide) ?_
              refine q_icc2 (z := 18) rfl rfl rfl rfl rfl ?_
              refine q_goto rfl ?_
              refine q_iload_n rfl rfl rfl ?_
              refine q_bipush rfl rfl ?_
              refine q_icge rfl rfl (fun c45 => absurd c45 (by decide)) (fun c45 => ?_)
              refine q_aload_n rfl rfl rfl ?_
              refine q_getf rfl rfl (by decide) (FW_46 S hW) rfl ?_
              refine q_bipush rfl rfl ?_
              refine q_iload_n rfl rfl rfl ?_
              refine q_imul rfl rfl (q_tn (z := 0) rfl ?_)
              refine q_iload_n rfl rfl rfl ?_
              refine q_iadd rfl rfl (q_tn (z := 18) rfl ?_)
              refine q_lconst rfl rfl ?_
              refine q_last rfl rfl (by decide) rfl (by decide) ?_
              refine q_icc2 (z := 19) rfl rfl rfl rfl rfl ?_
              refine q_goto rfl ?_
              refine q_iload_n rfl rfl rfl ?_
              refine q_bipush rfl rfl ?_
              refine q_icge rfl rfl (fun c46 => absurd c46 (by decide)) (fun c46 => ?_)
              refine q_aload_n rfl rfl rfl ?_
              refine q_getf rfl rfl (by decide) (FW_46 S hW) rfl ?_
              refine q_bipush rfl rfl ?_
              refine q_iload_n rfl rfl rfl ?_
              refine q_imul rfl rfl (q_tn (z := 0) rfl ?_)
              refine q_iload_n rfl rfl rfl ?_
              refine q_iadd rfl rfl (q_tn (z := 19) rfl ?_)
              refine q_lconst rfl rfl ?_
              refine q_last rfl rfl (by decide) rfl (by decide) ?_
              refine q_icc2 (z := 20) rfl rfl rfl rfl rfl ?_
              refine q_goto rfl ?_
              refine q_iload_n rfl rfl rfl ?_
              refine q_bipush rfl rfl ?_
              refine q_icge rfl rfl (fun c47 => absurd c47 (by decide)) (fun c47 => ?_)
              refine q_aload_n rfl rfl rfl ?_
              refine q_getf rfl rfl (by decide) (FW_46 S hW) rfl ?_
              refine q_bipush rfl rfl ?_
              refine q_iload_n rfl rfl rfl ?_
              refine q_imul rfl rfl (q_tn (z := 0) rfl ?_)
              refine q_iload_n rfl rfl rfl ?_
              refine q_iadd rfl rfl (q_tn (z := 20) rfl ?_)
              refine q_lconst rfl rfl ?_
              refine q_last rfl rfl (by decide) rfl (by decide) ?_
              refine q_icc2 (z := 21) rfl rfl rfl rfl rfl ?_
              refine q_goto rfl ?_
              refine q_iload_n rfl rfl rfl ?_
              refine q_bipush rfl rfl ?_
              refine q_icge rfl rfl (fun c48 => absurd c48 (by decide)) (fun c48 => ?_)
              refine q_aload_n rfl rfl rfl ?_
              refine q_getf rfl rfl (by decide) (FW_46 S hW) rfl ?_
              refine q_bipush rfl rfl ?_
              refine q_iload_n rfl rfl rfl ?_
              refine q_imul rfl rfl (q_tn (z := 0) rfl ?_)
              refine q_iload_n rfl rfl rfl ?_
              refine q_iadd rfl rfl (q_tn (z := 21) rfl ?_)
              refine q_lconst rfl rfl ?_
              refine q_last rfl rfl (by decide) rfl (by decide) ?_
              refine q_icc2 (z := 22) rfl rfl rfl rfl rfl ?_
              refine q_goto rfl ?_
              refine q_iload_n rfl rfl rfl ?_
              refine q_bipush rfl rfl ?_
              refine q_icge rfl rfl (fun c49 => absurd c49 (by decide)) (fun c49 => ?_)
              refine q_aload_n rfl rfl rfl ?_
              refine q_getf rfl rfl (by decide) (FW_46 S hW) rfl ?_
              refine q_bipush rfl rfl ?_
              refine q_iload_n rfl rfl rfl ?_
              refine q_imul rfl rfl (q_tn (z := 0) rfl ?_)
              refine q_iload_n rfl rfl rfl ?_
              refine q_iadd rfl rfl (q_tn (z := 22) rfl ?_)
              refine q_lconst rfl rfl ?_
              refine q_last rfl rfl (by decide) rfl (by decide) ?_
              refine q_icc2 (z := 23) rfl rfl rfl rfl rfl ?_
              refine q_goto rfl ?_
              refine q_iload_n rfl rfl rfl ?_
              refine q_bipush rfl rfl ?_
              refine q_icge rfl rfl (fun c50 => absurd c50 (by decide)) (fun c50 => ?_)
              refine q_aload_n rfl rfl rfl ?_
              refine q_getf rfl rfl (by decide) (FW_46 S hW) rfl ?_
              refine q_bipush rfl rfl ?_
              refine q_iload_n rfl rfl rfl ?_
              refine q_imul rfl rfl (q_tn (z := 0) rfl ?_)
              refine q_iload_n rfl rfl rfl ?_
              refine q_iadd rfl rfl (q_tn (z := 23) rfl ?_)
              refine q_lconst rfl rfl ?_
              refine q_last rfl rfl (by decide) rfl (by decide) ?_
              refine q_icc2 (z := 24) rfl rfl rfl rfl rfl ?_
              refine q_goto rfl ?_
              refine q_iload_n rfl rfl rfl ?_
              refine q_bipush rfl rfl ?_
              refine q_icge rfl rfl (fun c51 => absurd c51 (by decide)) (fun c51 => ?_)
              refine q_aload_n rfl rfl rfl ?_
              refine q_getf rfl rfl (by decide) (FW_46 S hW) rfl ?_
              refine q_bipush rfl rfl ?_
              refine q_iload_n rfl rfl rfl ?_
              refine q_imul rfl rfl (q_tn (z := 0) rfl ?_)
              refine q_iload_n rfl rfl rfl ?_
              refine q_iadd rfl rfl (q_tn (z := 24) rfl ?_)
              refine q_lconst rfl rfl ?_
              refine q_last rfl rfl (by decide) rfl (by decide) ?_
              refine q_icc2 (z := 25) rfl rfl rfl rfl rfl ?_
              refine q_goto rfl ?_
              refine q_iload_n rfl rfl rfl ?_
              refine q_bipush rfl rfl ?_
              refine q_icge rfl rfl (fun c52 => absurd c52 (by decide)) (fun c52 => ?_)
              refine q_aload_n rfl rfl rfl ?_
              refine q_getf rfl rfl (by decide) (FW_46 S hW) rfl ?_
              refine q_bipush rfl rfl ?_
              refine q_iload_n rfl rfl rfl ?_
              refine q_imul rfl rfl (q_tn (z := 0) rfl ?_)
              refine q_iload_n rfl rfl rfl ?_
              refine q_iadd rfl rfl (q_tn (z := 25) rfl ?_)
              refine q_lconst rfl rfl ?_
              refine q_last rfl rfl (by decide) rfl (by decide) ?_
              refine q_icc2 (z := 26) rfl rfl rfl rfl rfl ?_
              refine q_goto rfl ?_
              refine q_iload_n rfl rfl rfl ?_
              refine q_bipush rfl rfl ?_
              refine q_icge rfl rfl (fun c53 => absurd c53 (by decide)) (fun c53 => ?_)
              refine q_aload_n rfl rfl rfl ?_
              refine q_getf rfl rfl (by decide) (FW_46 S hW) rfl ?_
              refine q_bipush rfl rfl ?_
              refine q_iload_n rfl rfl rfl ?_
              refine q_imul rfl rfl (q_tn (z := 0) rfl ?_)
              refine q_iload_n rfl rfl rfl ?_
              refine q_iadd rfl rfl (q_tn (z := 26) rfl ?_)
              refine q_lconst rfl rfl ?_
              refine q_last rfl rfl (by decide) rfl (by decide) ?_
              refine q_icc2 (z := 27) rfl rfl rfl rfl rfl ?_
              refine q_goto rfl ?_
              refine q_iload_n rfl rfl rfl ?_
              refine q_bipush rfl rfl ?_
              refine q_icge rfl rfl (fun c54 => absurd c54 (by decide)) (fun c54 => ?_)
              refine q_aload_n rfl rfl rfl ?_
              refine q_getf rfl rfl (by decide) (FW_46 S hW) rfl ?_
              refine q_bipush rfl rfl ?_
              refine q_iload_n rfl rfl rfl ?_
              refine q_imul rfl rfl (q_tn (z := 0) rfl ?_)
              refine q_iload_n rfl rfl rfl ?_
              refine q_iadd rfl rfl (q_tn (z := 27) rfl ?_)
              refine q_lconst rfl rfl ?_
              refine q_last rfl rfl (by decide) rfl (by decide) ?_
              refine q_icc2 (z := 28) rfl rfl rfl rfl rfl ?_
              refine q_goto rfl ?_
              refine q_iload_n rfl rfl rfl ?_
              refine q_bipush rfl rfl ?_
              refine q_icge rfl rfl (fun c55 => absurd c55 (by decide)) (fun c55 => ?_)
              refine q_aload_n rfl rfl rfl ?_
              refine q_getf rfl rfl (by decide) (FW_46 S hW) rfl ?_
              refine q_bipush rfl rfl ?_
              refine q_iload_n rfl rfl rfl ?_
              refine q_imul rfl rfl (q_tn (z := 0) rfl ?_)
              refine q_iload_n rfl rfl rfl ?_
              refine q_iadd rfl rfl (q_tn (z := 28) rfl ?_)
              refine q_lconst rfl rfl ?_
              refine q_last rfl rfl (by decide) rfl (by decide) ?_
              refine q_icc2 (z := 29) rfl rfl rfl rfl rfl ?_
              refine q_goto rfl ?_
              refine q_iload_n rfl rfl rfl ?_
              refine q_bipush rfl rfl ?_
              refine q_icge rfl rfl (fun c56 => absurd c56 (by decide)) (fun c56 => ?_)
              refine q_aload_n rfl rfl rfl ?_
              refine q_getf rfl rfl (by decide) (FW_46 S hW) rfl ?_
              refine q_bipush rfl rfl ?_
              refine q_iload_n rfl rfl rfl ?_
              refine q_imul rfl rfl (q_tn (z := 0) rfl ?_)
              refine q_iload_n rfl rfl rfl ?_
              refine q_iadd rfl rfl (q_tn (z := 29) rfl ?_)
              refine q_lconst rfl rfl ?_
              refine q_last rfl rfl (by decide) rfl (by decide) ?_
              refine q_icc2 (z := 30) rfl rfl rfl rfl rfl ?_
              refine q_goto rfl ?_
              refine q_iload_n rfl rfl rfl ?_
              refine q_bipush rfl rfl ?_
              refine q_icge rfl rfl (fun c57 => absurd c57 (by decide)) (fun c57 => ?_)
              refine q_aload_n rfl rfl rfl ?_
              refine q_getf rfl rfl (by decide) (FW_46 S hW) rfl ?_
              refine q_bipush rfl rfl ?_
              refine q_iload_n rfl rfl rfl ?_
              refine q_imul rfl rfl (q_tn (z := 0) rfl ?_)
              refine q_iload_n rfl rfl rfl ?_
              refine q_iadd rfl rfl (q_tn (z := 30) rfl ?_)
              refine q_lconst rfl rfl ?_
              refine q_last rfl rfl (by decide) rfl (by decide) ?_
              refine q_icc2 (z := 31) rfl rfl rfl rfl rfl ?_
              refine q_goto rfl ?_
              refine q_iload_n rfl rfl rfl ?_
              refine q_bipush rfl rfl ?_
              refine q_icge rfl rfl (fun c58 => absurd c58 (by decide)) (fun c58 => ?_)
              refine q_aload_n rfl rfl rfl ?_
              refine q_getf rfl rfl (by decide) (FW_46 S hW) rfl ?_
              refine q_bipush rfl rfl ?_
              refine q_iload_n rfl rfl rfl ?_
              refine q_imul rfl rfl (q_tn (z := 0) rfl ?_)
              refine q_iload_n rfl rfl rfl ?_
              refine q_iadd rfl rfl (q_tn (z := 31) rfl ?_)
              refine q_lconst rfl rfl ?_
              refine q_last rfl rfl (by decide) rfl (by decide) ?_
              refine q_icc2 (z := 32) rfl rfl rfl rfl rfl ?_
              refine q_goto rfl ?_
              refine q_iload_n rfl rfl rfl ?_
              refine q_bipush rfl rfl ?_
              refine q_icge rfl rfl (fun c59 => absurd c59 (by decide)) (fun c59 => ?_)
              refine q_aload_n rfl rfl rfl ?_
              refine q_getf rfl rfl (by decide) (FW_46 S hW) rfl ?_
              refine q_bipush rfl rfl ?_
              refine q_iload_n rfl rfl rfl ?_
              refine q_imul rfl rfl (q_tn (z := 0) rfl ?_)
              refine q_iload_n rfl rfl rfl ?_
              refine q_iadd rfl rfl (q_tn (z := 32) rfl ?_)
              refine q_lconst rfl rfl ?_
              refine q_last rfl rfl (by decide) rfl (by decide) ?_
              refine q_icc2 (z := 33) rfl rfl rfl rfl rfl ?_
              refine q_goto rfl ?_
              refine q_iload_n rfl rfl rfl ?_
              refine q_bipush rfl rfl ?_
              refine q_icge rfl rfl (fun c60 => absurd c60 (by decide)) (fun c60 => ?_)
              refine q_aload_n rfl rfl rfl ?_
              refine q_getf rfl rfl (by decide) (FW_46 S hW) rfl ?_
              refine q_bipush rfl rfl ?_
              refine q_iload_n rfl rfl rfl ?_
              refine q_imul rfl rfl (q_tn (z := 0) rfl ?_)
              refine q_iload_n rfl rfl rfl ?_
              refine q_iadd rfl rfl (q_tn (z := 33) rfl ?_)
              refine q_lconst rfl rfl ?_
              refine q_last rfl rfl (by decide) rfl (by decide) ?_
              refine q_icc2 (z := 34) rfl rfl rfl rfl rfl ?_
              refine q_goto rfl ?_
              refine q_iload_n rfl rfl rfl ?_
              refine q_bipush rfl rfl ?_
              refine q_icge rfl rfl (fun c61 => absurd c61 (by decide)) (fun c61 => ?_)
              refine q_aload_n rfl rfl rfl ?_
              refine q_getf rfl rfl (by decide) (FW_46 S hW) rfl ?_
              refine q_bipush rfl rfl ?_
              refine q_iload_n rfl rfl rfl ?_
              refine q_imul rfl rfl (q_tn (z := 0) rfl ?_)
              refine q_iload_n rfl rfl rfl ?_
              refine q_iadd rfl rfl (q_tn (z := 34) rfl ?_)
              refine q_lconst rfl rfl ?_
              refine q_last rfl rfl (by decide) rfl (by decide) ?_
              refine q_icc2 (z := 35) rfl rfl rfl rfl rfl ?_
              refine q_goto rfl ?_
              refine q_iload_n rfl rfl rfl ?_
              refine q_bipush rfl rfl ?_
              refine q_icge rfl rfl (fun c62 => absurd c62 (by decide)) (fun c62 => ?_)
              refine q_aload_n rfl rfl rfl ?_
              refine q_getf rfl rfl (by decide) (FW_46 S hW) rfl ?_
              refine q_bipush rfl rfl ?_
              refine q_iload_n rfl rfl rfl ?_
              refine q_imul rfl rfl (q_tn (z := 0) rfl ?_)
              refine q_iload_n rfl rfl rfl ?_
              refine q_iadd rfl rfl (q_tn (z := 35) rfl ?_)
              refine q_lconst rfl rfl ?_
              refine q_last rfl rfl (by decide) rfl (by decide) ?_
              refine q_icc2 (z := 36) rfl rfl rfl rfl rfl ?_
              refine q_goto rfl ?_
              refine q_iload_n rfl rfl rfl ?_
              refine q_bipush rfl rfl ?_
              refine q_icge rfl rfl (fun c63 => absurd c63 (by decide)) (fun c63 => ?_)
              refine q_aload_n rfl rfl rfl ?_
              refine q_getf rfl rfl (by decide) (FW_46 S hW) rfl ?_
              refine q_bipush rfl rfl ?_
              refine q_iload_n rfl rfl rfl ?_
              refine q_imul rfl rfl (q_tn (z := 0) rfl ?_)
              refine q_iload_n rfl rfl rfl ?_
              refine q_iadd rfl rfl (q_tn (z := 36) rfl ?_)
              refine q_lconst rfl rfl ?_
              refine q_last rfl rfl (by decide) rfl (by decide) ?_
              refine q_icc2 (z := 37) rfl rfl rfl rfl rfl ?_
              refine q_goto rfl ?_
              refine q_iload_n rfl rfl rfl ?_
              refine q_bipush rfl rfl ?_
              refine q_icge rfl rfl (fun c64 => absurd c64 (by decide)) (fun c64 => ?_)
              refine q_aload_n rfl rfl rfl ?_
              refine q_getf rfl rfl (by decide) (FW_46 S hW) rfl ?_
              refine q_bipush rfl rfl ?_
              refine q_iload_n rfl rfl rfl ?_
              refine q_imul rfl rfl (q_tn (z := 0) rfl ?_)
              refine q_iload_n rfl rfl rfl ?_
              refine q_iadd rfl rfl (q_tn (z := 37) rfl ?_)
              refine q_lconst rfl rfl ?_
              refine q_last rfl rfl (by decide) rfl (by decide) ?_
              refine q_icc2 (z := 38) rfl rfl rfl rfl rfl ?_
              refine q_goto rfl ?_
              refine q_iload_n rfl rfl rfl ?_
              refine q_bipush rfl rfl ?_
              refine q_icge rfl rfl (fun c65 => absurd c65 (by decide)) (fun c65 => ?_)
              refine q_aload_n rfl rfl rfl ?_
              refine q_getf rfl rfl (by decide) (FW_46 S hW) rfl ?_
              refine q_bipush rfl rfl ?_
              refine q_iload_n rfl rfl rfl ?_
              refine q_imul rfl rfl (q_tn (z := 0) rfl ?_)
              refine q_iload_n rfl rfl rfl ?_
              refine q_iadd rfl rfl (q_tn (z := 38) rfl ?_)
              refine q_lconst rfl rfl ?_
              refine q_last rfl rfl (by decide) rfl (by decide) ?_
              refine q_icc2 (z := 39) rfl rfl rfl rfl rfl ?_
              refine q_goto rfl ?_
              refine q_iload_n rfl rfl rfl ?_
              refine q_bipush rfl rfl ?_
              refine q_icge rfl rfl (fun c66 => absurd c66 (by decide)) (fun c66 => ?_)
              refine q_aload_n rfl rfl rfl ?_
              refine q_getf rfl rfl (by decide) (FW_46 S hW) rfl ?_
              refine q_bipush rfl rfl ?_
              refine q_iload_n rfl rfl rfl ?_
              refine q_imul rfl rfl (q_tn (z := 0) rfl ?_)
              refine q_iload_n rfl rfl rfl ?_
              refine q_iadd rfl rfl (q_tn (z := 39) rfl ?_)
              refine q_lconst rfl rfl ?_
              refine q_last rfl rfl (by decide) rfl (by decide) ?_
              refine q_icc2 (z := 40) rfl rfl rfl rfl rfl ?_
              refine q_goto rfl ?_
              refine q_iload_n rfl rfl rfl ?_
              refine q_bipush rfl rfl ?_
              refine q_icge rfl rfl (fun c67 => absurd c67 (by decide)) (fun c67 => ?_)
              refine q_aload_n rfl rfl rfl ?_
              refine q_getf rfl rfl (by decide) (FW_46 S hW) rfl ?_
              refine q_bipush rfl rfl ?_
              refine q_iload_n rfl rfl rfl ?_
              refine q_imul rfl rfl (q_tn (z := 0) rfl ?_)
              refine q_iload_n rfl rfl rfl ?_
              refine q_iadd rfl rfl (q_tn (z := 40) rfl ?_)
              refine q_lconst rfl rfl ?_
              refine q_last rfl rfl (by decide) rfl (by decide) ?_
              refine q_icc2 (z := 41) rfl rfl rfl rfl rfl ?_
              refine q_goto rfl ?_
              refine q_iload_n rfl rfl rfl ?_
              refine q_bipush rfl rfl ?_
              refine q_icge rfl rfl (fun c68 => absurd c68 (by decide)) (fun c68 => ?_)
              refine q_aload_n rfl rfl rfl ?_
              refine q_getf rfl rfl (by decide) (FW_46 S hW) rfl ?_
              refine q_bipush rfl rfl ?_
              refine q_iload_n rfl rfl rfl ?_
              refine q_imul rfl rfl (q_tn (z := 0) rfl ?_)
              refine q_iload_n rfl rfl rfl ?_
              refine q_iadd rfl rfl (q_tn (z := 41) rfl ?_)
              refine q_lconst rfl rfl ?_
              refine q_last rfl rfl (by decide) rfl (by decide) ?_
              refine q_icc2 (z := 42) rfl rfl rfl rfl rfl ?_
              refine q_goto rfl ?_
              refine q_iload_n rfl rfl rfl ?_
              refine q_bipush rfl rfl ?_
              refine q_icge rfl rfl (fun c69 => absurd c69 (by decide)) (fun c69 => ?_)
              refine q_aload_n rfl rfl rfl ?_
              refine q_getf rfl rfl (by decide) (FW_46 S hW) rfl ?_
              refine q_bipush rfl rfl ?_
              refine q_iload_n rfl rfl rfl ?_
              refine q_imul rfl rfl (q_tn (z := 0) rfl ?_)
              refine q_iload_n rfl rfl rfl ?_
              refine q_iadd rfl rfl (q_tn (z := 42) rfl ?_)
              refine q_lconst rfl rfl ?_
              refine q_last rfl rfl (by decide) rfl (by decide) ?_
              refine q_icc2 (z := 43) rfl rfl rfl rfl rfl ?_
              refine q_goto rfl ?_
              refine q_iload_n rfl rfl rfl ?_
              refine q_bipush rfl rfl ?_
              refine q_icge rfl rfl (fun c70 => absurd c70 (by decide)) (fun c70 => ?_)
              refine q_aload_n rfl rfl rfl ?_
              refine q_getf rfl rfl (by decide) (FW_46 S hW) rfl ?_
              refine q_bipush rfl rfl ?_
              refine q_iload_n rfl rfl rfl ?_
              refine q_imul rfl rfl (q_tn (z := 0) rfl ?_)
              refine q_iload_n rfl rfl rfl ?_
              refine q_iadd rfl rfl (q_tn (z := 43) rfl ?_)
              refine q_lconst rfl rfl ?_
              refine q_last rfl rfl (by decide) rfl (by decide) ?_
              refine q_icc2 (z := 44) rfl rfl rfl rfl rfl ?_
              refine q_goto rfl ?_
              refine q_iload_n rfl rfl rfl ?_
              refine q_bipush rfl rfl ?_
              refine q_icge rfl rfl (fun c71 => absurd c71 (by decide)) (fun c71 => ?_)
              refine q_aload_n rfl rfl rfl ?_
              refine q_getf rfl rfl (by decide) (FW_46 S hW) rfl ?_
              refine q_bipush rfl rfl ?_
              refine q_iload_n rfl rfl rfl ?_
              refine q_imul rfl rfl (q_tn (z := 0) rfl ?_)
              refine q_iload_n rfl rfl rfl ?_
              refine q_iadd rfl rfl (q_tn (z := 44) rfl ?_)
              refine q_lconst rfl rfl ?_
              refine q_last rfl rfl (by decide) rfl (by decide) ?_
              refine q_icc2 (z := 45) rfl rfl rfl rfl rfl ?_
              refine q_goto rfl ?_
              refine q_iload_n rfl rfl rfl ?_
              refine q_bipush rfl rfl ?_
              refine q_icge rfl rfl (fun c72 => absurd c72 (by decide)) (fun c72 => ?_)
              refine q_aload_n rfl rfl rfl ?_
              refine q_getf rfl rfl (by decide) (FW_46 S hW) rfl ?_
              refine q_bipush rfl rfl ?_
              refine q_iload_n rfl rfl rfl ?_
              refine q_imul rfl rfl (q_tn (z := 0) rfl ?_)
              refine q_iload_n rfl rfl rfl ?_
              refine q_iadd rfl rfl (q_tn (z := 45) rfl ?_)
              refine q_lconst rfl rfl ?_
              refine q_last rfl rfl (by decide) rfl (by decide) ?_
              refine q_icc2 (z := 46) rfl rfl rfl rfl rfl ?_
              refine q_goto rfl ?_
              refine q_iload_n rfl rfl rfl ?_
              refine q_bipush rfl rfl ?_
              refine q_icge rfl rfl (fun c73 => absurd c73 (by decide)) (fun c73 => ?_)
              refine q_aload_n rfl rfl rfl ?_
              refine q_getf rfl rfl (by decide) (FW_46 S hW) rfl ?_
              refine q_bipush rfl rfl ?_
              refine q_iload_n rfl rfl rfl ?_
              refine q_imul rfl rfl (q_tn (z := 0) rfl ?_)
              refine q_iload_n rfl rfl rfl ?_
              refine q_iadd rfl rfl (q_tn (z := 46) rfl ?_)
              refine q_lconst rfl rfl ?_
              refine q_last rfl rfl (by decide) rfl (by decide) ?_
              refine q_icc2 (z := 47) rfl rfl rfl rfl rfl ?_
              refine q_goto rfl ?_
              refine q_iload_n rfl rfl rfl ?_
              refine q_bipush rfl rfl ?_
              refine q_icge rfl rfl (fun c74 => absurd c74 (by decide)) (fun c74 => ?_)
              refine q_aload_n rfl rfl rfl ?_
              refine q_getf rfl rfl (by decide) (FW_46 S hW) rfl ?_
              refine q_bipush rfl rfl ?_
              refine q_iload_n rfl rfl rfl ?_
              refine q_imul rfl rfl (q_tn (z := 0) rfl ?_)
              refine q_iload_n rfl rfl rfl ?_
              refine q_iadd rfl rfl (q_tn (z := 47) rfl ?_)
              refine q_lconst rfl rfl ?_
              refine q_last rfl rfl (by decide) rfl (by decide) ?_
              refine q_icc2 (z := 48) rfl rfl rfl rfl rfl ?_
              refine q_goto rfl ?_
              refine q_iload_n rfl rfl rfl ?_
              refine q_bipush rfl rfl ?_
              refine q_icge rfl rfl (fun c75 => absurd c75 (by decide)) (fun c75 => ?_)
              refine q_aload_n rfl rfl rfl ?_
              refine q_getf rfl rfl (by decide) (FW_46 S hW) rfl ?_
              refine q_bipush rfl rfl ?_
              refine q_iload_n rfl rfl rfl ?_
              refine q_imul rfl rfl (q_tn (z := 0) rfl ?_)
              refine q_iload_n rfl rfl rfl ?_
              refine q_iadd rfl rfl (q_tn (z := 48) rfl ?_)
              refine q_lconst rfl rfl ?_
              refine q_last rfl rfl (by decide) rfl (by decide) ?_
              refine q_icc2 (z := 49) rfl rfl rfl rfl rfl ?_
              refine q_goto rfl ?_
              refine q_iload_n rfl rfl rfl ?_
              refine q_bipush rfl rfl ?_
              refine q_icge rfl rfl (fun c76 => absurd c76 (by decide)) (fun c76 => ?_)
              refine q_aload_n rfl rfl rfl ?_
              refine q_getf rfl rfl (by decide) (FW_46 S hW) rfl ?_
              refine q_bipush rfl rfl ?_
              refine q_iload_n rfl rfl rfl ?_
              refine q_imul rfl rfl (q_tn (z := 0) rfl ?_)
              refine q_iload_n rfl rfl rfl ?_
              refine q_iadd rfl rfl (q_tn (z := 49) rfl ?_)
              refine q_lconst rfl rfl ?_
              refine q_last rfl rfl (by decide) rfl (by decide) ?_
              refine q_icc2 (z := 50) rfl rfl rfl rfl rfl ?_
              refine q_goto rfl ?_
              refine q_iload_n rfl rfl rfl ?_
              refine q_bipush rfl rfl ?_
              refine q_icge rfl rfl (fun c77 => absurd c77 (by decide)) (fun c77 => ?_)
              refine q_aload_n rfl rfl rfl ?_
              refine q_getf rfl rfl (by decide) (FW_46 S hW) rfl ?_
              refine q_bipush rfl rfl ?_
              refine q_iload_n rfl rfl rfl ?_
              refine q_imul rfl rfl (q_tn (z := 0) rfl ?_)
              refine q_iload_n rfl rfl rfl ?_
              refine q_iadd rfl rfl (q_tn (z := 50) rfl ?_)
              refine q_lconst rfl rfl ?_
              refine q_last rfl rfl (by decide) rfl (by decide) ?_
              refine q_icc2 (z := 51) rfl rfl rfl rfl rfl ?_
              refine q_goto rfl ?_
              refine q_iload_n rfl rfl rfl ?_
              refine q_bipush rfl rfl ?_
              refine q_icge rfl rfl (fun c78 => absurd c78 (by decide)) (fun c78 => ?_)
              refine q_aload_n rfl rfl rfl ?_
              refine q_getf rfl rfl (by decide) (FW_46 S hW) rfl ?_
              refine q_bipush rfl rfl ?_
              refine q_iload_n rfl rfl rfl ?_
              refine q_imul rfl rfl (q_tn (z := 0) rfl ?_)
              refine q_iload_n rfl rfl rfl ?_
              refine q_iadd rfl rfl (q_tn (z := 51) rfl ?_)
              refine q_lconst rfl rfl ?_
              refine q_last rfl rfl (by decide) rfl (by decide) ?_
              refine q_icc2 (z := 52) rfl rfl rfl rfl rfl ?_
              refine q_goto rfl ?_
              refine q_iload_n rfl rfl rfl ?_
              refine q_bipush rfl rfl ?_
              refine q_icge rfl rfl (fun c79 => absurd c79 (by decide)) (fun c79 => ?_)
              refine q_aload_n rfl rfl rfl ?_
              refine q_getf rfl rfl (by decide) (FW_46 S hW) rfl ?_
              refine q_bipush rfl rfl ?_
              refine q_iload_n rfl rfl rfl ?_
              refine q_imul rfl rfl (q_tn (z := 0) rfl ?_)
              refine q_iload_n rfl rfl rfl ?_
              refine q_iadd rfl rfl (q_tn (z := 52) rfl ?_)
              refine q_lconst rfl rfl ?_
              refine q_last rfl rfl (by decide) rfl (by decide) ?_
              refine q_icc2 (z := 53) rfl rfl rfl rfl rfl ?_
              refine q_goto rfl ?_
              refine q_iload_n rfl rfl rfl ?_
              refine q_bipush rfl rfl ?_
              refine q_icge rfl rfl (fun c80 => absurd c80 (by decide)) (fun c80 => ?_)
              refine q_aload_n rfl rfl rfl ?_
              refine q_getf rfl rfl (by decide) (FW_46 S hW) rfl ?_
              refine q_bipush rfl rfl ?_
              refine q_iload_n rfl rfl rfl ?_
              refine q_imul rfl rfl (q_tn (z := 0) rfl ?_)
              refine q_iload_n rfl rfl rfl ?_
              refine q_iadd rfl rfl (q_tn (z := 53) rfl ?_)
              refine q_lconst rfl rfl ?_
              refine q_last rfl rfl (by decide) rfl (by decide) ?_
              refine q_icc2 (z := 54) rfl rfl rfl rfl rfl ?_
              refine q_goto rfl ?_
              refine q_iload_n rfl rfl rfl ?_
              refine q_bipush rfl rfl ?_
              refine q_icge rfl rfl (fun c81 => absurd c81 (by decide)) (fun c81 => ?_)
              refine q_aload_n rfl rfl rfl ?_
              refine q_getf rfl rfl (by decide) (FW_46 S hW) rfl ?_
              refine q_bipush rfl rfl ?_
              refine q_iload_n rfl rfl rfl ?_
              refine q_imul rfl rfl (q_tn (z := 0) rfl ?_)
              refine q_iload_n rfl rfl rfl ?_
              refine q_iadd rfl rfl (q_tn (z := 54) rfl ?_)
              refine q_lconst rfl rfl ?_
              refine q_last rfl rfl (by decide) rfl (by decide) ?_
              refine q_icc2 (z := 55) rfl rfl rfl rfl rfl ?_
              refine q_goto rfl ?_
              refine q_iload_n rfl rfl rfl ?_
              refine q_bipush rfl rfl ?_
              refine q_icge rfl rfl (fun c82 => absurd c82 (by decide)) (fun c82 => ?_)
              refine q_aload_n rfl rfl rfl ?_
              refine q_getf rfl rfl (by decide) (FW_46 S hW) rfl ?_
              refine q_bipush rfl rfl ?_
              refine q_iload_n rfl rfl rfl ?_
              refine q_imul rfl rfl (q_tn (z := 0) rfl ?_)
              refine q_iload_n rfl rfl rfl ?_
              refine q_iadd rfl rfl (q_tn (z := 55) rfl ?_)
              refine q_lconst rfl rfl ?_
              refine q_last rfl rfl (by decide) rfl (by decide) ?_
              refine q_icc2 (z := 56) rfl rfl rfl rfl rfl ?_
              refine q_goto rfl ?_
              refine q_iload_n rfl rfl rfl ?_
              refine q_bipush rfl rfl ?_
              refine q_icge rfl rfl (fun c83 => absurd c83 (by decide)) (fun c83 => ?_)
              refine q_aload_n rfl rfl rfl ?_
              refine q_getf rfl rfl (by decide) (FW_46 S hW) rfl ?_
              refine q_bipush rfl rfl ?_
              refine q_iload_n rfl rfl rfl ?_
              refine q_imul rfl rfl (q_tn (z := 0) rfl ?_)
              refine q_iload_n rfl rfl rfl ?_
              refine q_iadd rfl rfl (q_tn (z := 56) rfl ?_)
              refine q_lconst rfl rfl ?_
              refine q_last rfl rfl (by decide) rfl (by decide) ?_
              refine q_icc2 (z := 57) rfl rfl rfl rfl rfl ?_
              refine q_goto rfl ?_
              refine q_iload_n rfl rfl rfl ?_
              refine q_bipush rfl rfl ?_
              refine q_icge rfl rfl (fun c84 => absurd c84 (by decide)) (fun c84 => ?_)
              refine q_aload_n rfl rfl rfl ?_
              refine q_getf rfl rfl (by decide) (FW_46 S hW) rfl ?_
              refine q_bipush rfl rfl ?_
              refine q_iload_n rfl rfl rfl ?_
              refine q_imul rfl rfl (q_tn (z := 0) rfl ?_)
              refine q_iload_n rfl rfl rfl ?_
              refine q_iadd rfl rfl (q_tn (z := 57) rfl ?_)
              refine q_lconst rfl rfl ?_
              refine q_last rfl rfl (by decide) rfl (by decide) ?_
              refine q_icc2 (z := 58) rfl rfl rfl rfl rfl ?_
              refine q_goto rfl ?_
              refine q_iload_n rfl rfl rfl ?_
              refine q_bipush rfl rfl ?_
              refine q_icge rfl rfl (fun c85 => absurd c85 (by decide)) (fun c85 => ?_)
              refine q_aload_n rfl rfl rfl ?_
              refine q_getf rfl rfl (by decide) (FW_46 S hW) rfl ?_
              refine q_bipush rfl rfl ?_
              refine q_iload_n rfl rfl rfl ?_
              refine q_imul rfl rfl (q_tn (z := 0) rfl ?_)
              refine q_iload_n rfl rfl rfl ?_
              refine q_iadd rfl rfl (q_tn (z := 58) rfl ?_)
              refine q_lconst rfl rfl ?_
              refine q_last rfl rfl (by decide) rfl (by decide) ?_
              refine q_icc2 (z := 59) rfl rfl rfl rfl rfl ?_
              refine q_goto rfl ?_
              refine q_iload_n rfl rfl rfl ?_
              refine q_bipush rfl rfl ?_
              refine q_icge rfl rfl (fun c86 => absurd c86 (by decide)) (fun c86 => ?_)
              refine q_aload_n rfl rfl rfl ?_
              refine q_getf rfl rfl (by decide) (FW_46 S hW) rfl ?_
              refine q_bipush rfl rfl ?_
              refine q_iload_n rfl rfl rfl ?_
              refine q_imul rfl rfl (q_tn (z := 0) rfl ?_)
              refine q_iload_n rfl rfl rfl ?_
              refine q_iadd rfl rfl (q_tn (z := 59) rfl ?_)
              refine q_lconst rfl rfl ?_
              refine q_last rfl rfl (by decide) rfl (by decide) ?_
              refine q_icc2 (z := 60) rfl rfl rfl rfl rfl ?_
              refine q_goto rfl ?_
              refine q_iload_n rfl rfl rfl ?_
              refine q_bipush rfl rfl ?_
              refine q_icge rfl rfl (fun c87 => ?_) (fun c87 => absurd (by decide) c87)
              refine q_ret rfl rfl ?_
              refine ⟨rfl, ?_⟩
              refine q_iconst rfl rfl ?_
              refine q_iret rfl rfl trivial ?_
              refine ⟨_, rfl, ?_⟩
              refine q_iceq rfl rfl (fun c88 => ?_) (fun c88 => absurd (by decide) c88)
              refine q_icc4 (z := 6) rfl rfl rfl rfl rfl ?_
              refine q_goto rfl ?_
              refine q_iload rfl rfl rfl ?_
              refine q_aload_nF rfl rfl rfl ?_
              refine q_alenX (x := 6) rfl rfl rfl ?_
              refine q_bipush rfl rfl ?_
              refine q_isub rfl rfl (q_tn (z := 0) rfl ?_)
              refine q_icgt rfl rfl (fun c89 => ?_) (fun c89 => absurd (by decide) c89)
              refine q_iconst rfl rfl ?_
              refine q_iret rfl rfl rfl ?_
              exact hK _ _
            · refine q_aast rfl rfl (by decide) (by decide) (FW_43 S hW) rfl rfl (by decide) ?_
              refine q_iconst rfl rfl ?_
              refine q_iret rfl rfl trivial ?_
              refine ⟨_, rfl, ?_⟩
              refine q_aload_n rfl rfl rfl ?_
              refine q_aload_nF rfl rfl rfl ?_
              refine q_iload rfl rfl rfl ?_
              refine q_iconst rfl rfl ?_
              refine q_iadd rfl rfl (q_tn (z := 1) rfl ?_)
              refine q_ialdX (x := 1) rfl rfl rfl hx1 ?_
              refine q_aload_nF rfl rfl rfl ?_
              refine q_iload rfl rfl rfl ?_
              refine q_iconst rfl rfl ?_
              refine q_iadd rfl rfl (q_tn (z := 2) rfl ?_)
              refine q_ialdX (x := 3) rfl rfl rfl hx2 ?_
              refine q_aload_nF rfl rfl rfl ?_
              refine q_iload rfl rfl rfl ?_
              refine q_iconst rfl rfl ?_
              refine q_iadd rfl rfl (q_tn (z := 3) rfl ?_)
              refine q_ialdX (x := x3) rfl rfl rfl hx3 ?_
              refine q_nV3 rfl rfl (Or.inl rfl) rfl rfl rfl (by decide) (FW_46 S hW) ⟨rfl, rfl⟩ rfl ?_
              change PQ _ _ _ mm_X12_make 0 [.ref 46, .int 1, .int 3, .int x3] [] _ _ 0 0 _
              refine q_aload_n rfl rfl rfl ?_
              refine q_iload_n rfl rfl rfl ?_
              refine q_nV1 rfl rfl (Or.inl rfl) rfl rfl rfl (by decide) (FW_46 S hW) ⟨rfl, rfl⟩ rfl ?_
              change PQ _ _ _ mm_X12_isShelf 0 [.ref 46, .int 1] [] _ _ 0 0 _
              refine q_aload_n rfl rfl rfl ?_
              refine q_iload_n rfl rfl rfl ?_
              refine q_iconst rfl rfl ?_
              refine q_bipush rfl rfl ?_
              refine q_nV3 rfl rfl (Or.inl rfl) rfl rfl rfl (by decide) (FW_46 S hW) ⟨rfl, rfl⟩ rfl ?_
              change PQ _ _ _ mm_X12_in 0 [.ref 46, .int 1, .int 0, .int 7] [] _ _ 0 0 _
              refine q_iload_n rfl rfl rfl ?_
              refine q_iload_n rfl rfl rfl ?_
              refine q_iclt rfl rfl (fun c90 => absurd c90 (by decide)) (fun c90 => ?_)
              refine q_iload_n rfl rfl rfl ?_
              refine q_iload_n rfl rfl rfl ?_
              refine q_icgt rfl rfl (fun c91 => absurd c91 (by decide)) (fun c91 => ?_)
              refine q_iconst rfl rfl ?_
              refine q_goto rfl ?_
              refine q_iret rfl rfl rfl ?_
              refine ⟨_, rfl, ?_⟩
              refine q_iret rfl rfl rfl ?_
              refine ⟨_, rfl, ?_⟩
              refine q_ifeq rfl rfl (fun c92 => absurd c92 (by decide)) (fun c92 => ?_)
              refine q_aload_n rfl rfl rfl ?_
              refine q_iload_n rfl rfl rfl ?_
              refine q_iconst rfl rfl ?_
              refine q_iconst rfl rfl ?_
              refine q_nV3 rfl rfl (Or.inl rfl) rfl rfl rfl (by decide) (FW_46 S hW) ⟨rfl, rfl⟩ rfl ?_
              change PQ _ _ _ mm_X12_in 0 [.ref 46, .int 3, .int 3, .int 4] [] _ _ 0 0 _
              refine q_iload_n rfl rfl rfl ?_
              refine q_iload_n rfl rfl rfl ?_
              refine q_iclt rfl rfl (fun c93 => absurd c93 (by decide)) (fun c93 => ?_)
              refine q_iload_n rfl rfl rfl ?_
              refine q_iload_n rfl rfl rfl ?_
              refine q_icgt rfl rfl (fun c94 => absurd c94 (by decide)) (fun c94 => ?_)
              refine q_iconst rfl rfl ?_
              refine q_goto rfl ?_
              refine q_iret rfl rfl rfl ?_
              refine ⟨_, rfl, ?_⟩
              refine q_ifeq rfl rfl (fun c95 => absurd c95 (by decide)) (fun c95 => ?_)
              refine q_iload_n rfl rfl rfl ?_
              refine q_bipush rfl rfl ?_
              refine q_icle rfl rfl (fun c96 => ?_) (fun c96 => absurd (i_le_t c16 rfl) c96)
              refine q_iload_n rfl rfl rfl ?_
              refine q_ifge rfl rfl (fun c97 => ?_) (fun c97 => absurd (i_ge_t c17 rfl) c97)
              refine q_aload_n rfl rfl rfl ?_
              refine q_getf rfl rfl (by decide) (FW_46 S hW) rfl ?_
              refine q_iload_n rfl rfl rfl ?_
              refine q_iload_n rfl rfl rfl ?_
              refine q_iast rfl rfl (by decide) (FW_75 S hW) (by decide) ?_
              refine q_aload_n rfl rfl rfl ?_
              refine q_getf rfl rfl (by decide) (FW_46 S hW) rfl ?_
              refine q_iload_n rfl rfl rfl ?_
              refine q_iload_n rfl rfl rfl ?_
              refine q_iast rfl rfl (by decide) (FW_78 S hW) (by decide) ?_
              refine q_aload_n rfl rfl rfl ?_
              refine q_iload_n rfl rfl rfl ?_
              refine q_nV1v rfl rfl (Or.inl rfl) rfl rfl rfl (by decide) (FW_46 S hW) ⟨rfl, rfl⟩ rfl ?_
              change PQ _ _ _ mm_X12_clear 0 [.ref 46, .int 1, pm_un] [] _ _ 0 0 _
              refine q_iconst rfl rfl ?_
              refine q_ist2n rfl rfl rfl rfl ?_
              refine q_iload_n rfl rfl rfl ?_
              refine q_bipush rfl rfl ?_
              refine q_icge rfl rfl (fun c98 => absurd c98 (by decide)) (fun c98 => ?_)
              refine q_aload_n rfl rfl rfl ?_
              refine q_getf rfl rfl (by decide) (FW_46 S hW) rfl ?_
              refine q_bipush rfl rfl ?_
              refine q_iload_n rfl rfl rfl ?_
              refine q_imul rfl rfl (q_tn (z := 60) rfl ?_)
              refine q_iload_n rfl rfl rfl ?_
              refine q_iadd rfl rfl (q_tn (z := 60) rfl ?_)
              refine q_lconst rfl rfl ?_
              refine q_last rfl rfl (by decide) (FW_79 S hW) (by decide) ?_
              refine q_icc2 (z := 1) rfl rfl rfl rfl rfl ?_
              refine q_goto rfl ?_
              refine q_iload_n rfl rfl rfl ?_
              refine q_bipush rfl rfl ?_
              refine q_icge rfl rfl (fun c99 => absurd c99 (by decide)) (fun c99 => ?_)
              refine q_aload_n rfl rfl rfl ?_
              refine q_getf rfl rfl (by decide) (FW_46 S hW) rfl ?_
              refine q_bipush rfl rfl ?_
              refine q_iload_n rfl rfl rfl ?_
              refine q_imul rfl rfl (q_tn (z := 60) rfl ?_)
              refine q_iload_n rfl rfl rfl ?_
              refine q_iadd rfl rfl (q_tn (z := 61) rfl ?_)
              refine q_lconst rfl rfl ?_
              refine q_last rfl rfl (by decide) rfl (by decide) ?_
              refine q_icc2 (z := 2) rfl rfl rfl rfl rfl ?_
              refine q_goto rfl ?_
              refine q_iload_n rfl rfl rfl ?_
              refine q_bipush rfl rfl ?_
              refine q_icge rfl rfl (fun c100 => absurd c100 (by decide)) (fun c100 => ?_)
              refine q_aload_n rfl rfl rfl ?_
              refine q_getf rfl rfl (by decide) (FW_46 S hW) rfl ?_
              refine q_bipush rfl rfl ?_
              refine q_iload_n rfl rfl rfl ?_
              refine q_imul rfl rfl (q_tn (z := 60) rfl ?_)
              refine q_iload_n rfl rfl rfl ?_
              refine q_iadd rfl rfl (q_tn (z := 62) rfl ?_)
              refine q_lconst rfl rfl ?_
              refine q_last rfl rfl (by decide) rfl (by decide) ?_
              refine q_icc2 (z := 3) rfl rfl rfl rfl rfl ?_
              refine q_goto rfl ?_
              refine q_iload_n rfl rfl rfl ?_
              refine q_bipush rfl rfl ?_
              refine q_icge rfl rfl (fun c101 => absurd c101 (by decide)) (fun c101 => ?_)
              refine q_aload_n rfl rfl rfl ?_
              refine q_getf rfl rfl (by decide) (FW_46 S hW) rfl ?_
              refine q_bipush rfl rfl ?_
              refine q_iload_n rfl rfl rfl ?_
              refine q_imul rfl rfl (q_tn (z := 60) rfl ?_)
              refine q_iload_n rfl rfl rfl ?_
              refine q_iadd rfl rfl (q_tn (z := 63) rfl ?_)
              refine q_lconst rfl rfl ?_
              refine q_last rfl rfl (by decide) rfl (by decide) ?_
              refine q_icc2 (z := 4) rfl rfl rfl rfl rfl ?_
              refine q_goto rfl ?_
              refine q_iload_n rfl rfl rfl ?_
              refine q_bipush rfl rfl ?_
              refine q_icge rfl rfl (fun c102 => absurd c102 (by decide)) (fun c102 => ?_)
              refine q_aload_n rfl rfl rfl ?_
              refine q_getf rfl rfl (by decide) (FW_46 S hW) rfl ?_
              refine q_bipush rfl rfl ?_
              refine q_iload_n rfl rfl rfl ?_
              refine q_imul rfl rfl (q_tn (z := 60) rfl ?_)
              refine q_iload_n rfl rfl rfl ?_
              refine q_iadd rfl rfl (q_tn (z := 64) rfl ?_)
              refine q_lconst rfl rfl ?_
              refine q_last rfl rfl (by decide) rfl (by decide) ?_
              refine q_icc2 (z := 5) rfl rfl rfl rfl rfl ?_
              refine q_goto rfl ?_
              refine q_iload_n rfl rfl rfl ?_
              refine q_bipush rfl rfl ?_
              refine q_icge rfl rfl (fun c103 => absurd c103 (by decide)) (fun c103 => ?_)
              refine q_aload_n rfl rfl rfl ?_
              refine q_getf rfl rfl (by decide) (FW_46 S hW) rfl ?_
              refine q_bipush rfl rfl ?_
              refine q_iload_n rfl rfl rfl ?_
              refine q_imul rfl rfl (q_tn (z := 60) rfl ?_)
              refine q_iload_n rfl rfl rfl ?_
              refine q_iadd rfl rfl (q_tn (z := 65) rfl ?_)
              refine q_lconst rfl rfl ?_
              refine q_last rfl rfl (by decide) rfl (by decide) ?_
              refine q_icc2 (z := 6) rfl rfl rfl rfl rfl ?_
              refine q_goto rfl ?_
              refine q_iload_n rfl rfl rfl ?_
              refine q_bipush rfl rfl ?_
              refine q_icge rfl rfl (fun c104 => absurd c104 (by decide)) (fun c104 => ?_)
              refine q_aload_n rfl rfl rfl ?_
              refine q_getf rfl rfl (by decide) (FW_46 S hW) rfl ?_
              refine q_bipush rfl rfl ?_
              refine q_iload_n rfl rfl rfl ?_
              refine q_imul rfl rfl (q_tn (z := 60) rfl ?_)
              refine q_iload_n rfl rfl rfl ?_
              refine q_iadd rfl rfl (q_tn (z := 66) rfl ?_)
              refine q_lconst rfl rfl ?_
              refine q_last rfl rfl (by decide) rfl (by decide) ?_
              refine q_icc2 (z := 7) rfl rfl rfl rfl rfl ?_
              refine q_goto rfl ?_
              refine q_iload_n rfl rfl rfl ?_
              refine q_bipush rfl rfl ?_
              refine q_icge rfl rfl (fun c105 => absurd c105 (by decide)) (fun c105 => ?_)
              refine q_aload_n rfl rfl rfl ?_
              refine q_getf rfl rfl (by decide) (FW_46 S hW) rfl ?_
              refine q_bipush rfl rfl ?_
              refine q_iload_n rfl rfl rfl ?_
              refine q_imul rfl rfl (q_tn (z := 60) rfl ?_)
              refine q_iload_n rfl rfl rfl ?_
              refine q_iadd rfl rfl (q_tn (z := 67) rfl ?_)
              refine q_lconst rfl rfl ?_
              refine q_last rfl rfl (by decide) rfl (by decide) ?_
              refine q_icc2 (z := 8) rfl rfl rfl rfl rfl ?_
              refine q_goto rfl ?_
              refine q_iload_n rfl rfl rfl ?_
              refine q_bipush rfl rfl ?_
              refine q_icge rfl rfl (fun c106 => absurd c106 (by decide)) (fun c106 => ?_)
              refine q_aload_n rfl rfl rfl ?_
              refine q_getf rfl rfl (by decide) (FW_46 S hW) rfl ?_
              refine q_bipush rfl rfl ?_
              refine q_iload_n rfl rfl rfl ?_
              refine q_imul rfl rfl (q_tn (z := 60) rfl ?_)
              refine q_iload_n rfl rfl rfl ?_
              refine q_iadd rfl rfl (q_tn (z := 68) rfl ?_)
              refine q_lconst rfl rfl ?_
              refine q_last rfl rfl (by decide) rfl (by decide) ?_
              refine q_icc2 (z := 9) rfl rfl rfl rfl rfl ?_
              refine q_goto rfl ?_
              refine q_iload_n rfl rfl rfl ?_
              refine q_bipush rfl rfl ?_
              refine q_icge rfl rfl (fun c107 => absurd c107 (by decide)) (fun c107 => ?_)
              refine q_aload_n rfl rfl rfl ?_
              refine q_getf rfl rfl (by decide) (FW_46 S hW) rfl ?_
              refine q_bipush rfl rfl ?_
              refine q_iload_n rfl rfl rfl ?_
              refine q_imul rfl rfl (q_tn (z := 60) rfl ?_)
              refine q_iload_n rfl rfl rfl ?_
              refine q_iadd rfl rfl (q_tn (z := 69) rfl ?_)
              refine q_lconst rfl rfl ?_
              refine q_last rfl rfl (by decide) rfl (by decide) ?_
              refine q_icc2 (z := 10) rfl rfl rfl rfl rfl ?_
              refine q_goto rfl ?_
              refine q_iload_n rfl rfl rfl ?_
              refine q_bipush rfl rfl ?_
              refine q_icge rfl rfl (fun c108 => absurd c108 (by decide)) (fun c108 => ?_)
              refine q_aload_n rfl rfl rfl ?_
              refine q_getf rfl rfl (by decide) (FW_46 S hW) rfl ?_
              refine q_bipush rfl rfl ?_
              refine q_iload_n rfl rfl rfl ?_
              refine q_imul rfl rfl (q_tn (z := 60) rfl ?_)
              refine q_iload_n rfl rfl rfl ?_
              refine q_iadd rfl rfl (q_tn (z := 70) rfl ?_)
              refine q_lconst rfl rfl ?_
              refine q_last rfl rfl (by decide) rfl (by decide) ?_
              refine q_icc2 (z := 11) rfl rfl rfl rfl rfl ?_
              refine q_goto rfl ?_
              refine q_iload_n rfl rfl rfl ?_
              refine q_bipush rfl rfl ?_
              refine q_icge rfl rfl (fun c109 => absurd c109 (by decide)) (fun c109 => ?_)
              refine q_aload_n rfl rfl rfl ?_
              refine q_getf rfl rfl (by decide) (FW_46 S hW) rfl ?_
              refine q_bipush rfl rfl ?_
              refine q_iload_n rfl rfl rfl ?_
              refine q_imul rfl rfl (q_tn (z := 60) rfl ?_)
              refine q_iload_n rfl rfl rfl ?_
              refine q_iadd rfl rfl (q_tn (z := 71) rfl ?_)
              refine q_lconst rfl rfl ?_
              refine q_last rfl rfl (by decide) rfl (by decide) ?_
              refine q_icc2 (z := 12) rfl rfl rfl rfl rfl ?_
              refine q_goto rfl ?_
              refine q_iload_n rfl rfl rfl ?_
              refine q_bipush rfl rfl ?_
              refine q_icge rfl rfl (fun c110 => absurd c110 (by decide)) (fun c110 => ?_)
              refine q_aload_n rfl rfl rfl ?_
              refine q_getf rfl rfl (by decide) (FW_46 S hW) rfl ?_
              refine q_bipush rfl rfl ?_
              refine q_iload_n rfl rfl rfl ?_
              refine q_imul rfl rfl (q_tn (z := 60) rfl ?_)
              refine q_iload_n rfl rfl rfl ?_
              refine q_iadd rfl rfl (q_tn (z := 72) rfl ?_)
              refine q_lconst rfl rfl ?_
              refine q_last rfl rfl (by decide) rfl (by decide) ?_
              refine q_icc2 (z := 13) rfl rfl rfl rfl rfl ?_
              refine q_goto rfl ?_
              refine q_iload_n rfl rfl rfl ?_
              refine q_bipush rfl rfl ?_
              refine q_icge rfl rfl (fun c111 => absurd c111 (by decide)) (fun c111 => ?_)
              refine q_aload_n rfl rfl rfl ?_
              refine q_getf rfl rfl (by decide) (FW_46 S hW) rfl ?_
              refine q_bipush rfl rfl ?_
              refine q_iload_n rfl rfl rfl ?_
              refine q_imul rfl rfl (q_tn (z := 60) rfl ?_)
              refine q_iload_n rfl rfl rfl ?_
              refine q_iadd rfl rfl (q_tn (z := 73) rfl ?_)
              refine q_lconst rfl rfl ?_
              refine q_last rfl rfl (by decide) rfl (by decide) ?_
              refine q_icc2 (z := 14) rfl rfl rfl rfl rfl ?_
              refine q_goto rfl ?_
              refine q_iload_n rfl rfl rfl ?_
              refine q_bipush rfl rfl ?_
              refine q_icge rfl rfl (fun c112 => absurd c112 (by decide)) (fun c112 => ?_)
              refine q_aload_n rfl rfl rfl ?_
              refine q_getf rfl rfl (by decide) (FW_46 S hW) rfl ?_
              refine q_bipush rfl rfl ?_
              refine q_iload_n rfl rfl rfl ?_
              refine q_imul rfl rfl (q_tn (z := 60) rfl ?_)
              refine q_iload_n rfl rfl rfl ?_
              refine q_iadd rfl rfl (q_tn (z := 74) rfl ?_)
              refine q_lconst rfl rfl ?_
              refine q_last rfl rfl (by decide) rfl (by decide) ?_
              refine q_icc2 (z := 15) rfl rfl rfl rfl rfl ?_
              refine q_goto rfl ?_
              refine q_iload_n rfl rfl rfl ?_
              refine q_bipush rfl rfl ?_
              refine q_icge rfl rfl (fun c113 => absurd c113 (by decide)) (fun c113 => ?_)
              refine q_aload_n rfl rfl rfl ?_
              refine q_getf rfl rfl (by decide) (FW_46 S hW) rfl ?_
              refine q_bipush rfl rfl ?_
              refine q_iload_n rfl rfl rfl ?_
              refine q_imul rfl rfl (q_tn (z := 60) rfl ?_)
              refine q_iload_n rfl rfl rfl ?_
              refine q_iadd rfl rfl (q_tn (z := 75) rfl ?_)
              refine q_lconst rfl rfl ?_
              refine q_last rfl rfl (by decide) rfl (by decide) ?_
              refine q_icc2 (z := 16) rfl rfl rfl rfl rfl ?_
              refine q_goto rfl ?_
              refine q_iload_n rfl rfl rfl ?_
              refine q_bipush rfl rfl ?_
              refine q_icge rfl rfl (fun c114 => absurd c114 (by decide)) (fun c114 => ?_)
              refine q_aload_n rfl rfl rfl ?_
              refine q_getf rfl rfl (by decide) (FW_46 S hW) rfl ?_
              refine q_bipush rfl rfl ?_
              refine q_iload_n rfl rfl rfl ?_
              refine q_imul rfl rfl (q_tn (z := 60) rfl ?_)
              refine q_iload_n rfl rfl rfl ?_
              refine q_iadd rfl rfl (q_tn (z := 76) rfl ?_)
              refine q_lconst rfl rfl ?_
              refine q_last rfl rfl (by decide) rfl (by decide) ?_
              refine q_icc2 (z := 17) rfl rfl rfl rfl rfl ?_
              refine q_goto rfl ?_
              refine q_iload_n rfl rfl rfl ?_
              refine q_bipush rfl rfl ?_
              refine q_icge rfl rfl (fun c115 => absurd c115 (by decide)) (fun c115 => ?_)
              refine q_aload_n rfl rfl rfl ?_
              refine q_getf rfl rfl (by decide) (FW_46 S hW) rfl ?_
              refine q_bipush rfl rfl ?_
              refine q_iload_n rfl rfl rfl ?_
              refine q_imul rfl rfl (q_tn (z := 60) rfl ?_)
              refine q_iload_n rfl rfl rfl ?_
              refine q_iadd rfl rfl (q_tn (z := 77) rfl ?_)
              refine q_lconst rfl rfl ?_
              refine q_last rfl rfl (by decide) rfl (by decide) ?_
              refine q_icc2 (z := 18) rfl rfl rfl rfl rfl ?_
              refine q_goto rfl ?_
              refine q_iload_n rfl rfl rfl ?_
              refine q_bipush rfl rfl ?_
              refine q_icge rfl rfl (fun c116 => absurd c116 (by decide)) (fun c116 => ?_)
              refine q_aload_n rfl rfl rfl ?_
              refine q_getf rfl rfl (by decide) (FW_46 S hW) rfl ?_
              refine q_bipush rfl rfl ?_
              refine q_iload_n rfl rfl rfl ?_
              refine q_imul rfl rfl (q_tn (z := 60) rfl ?_)
              refine q_iload_n rfl rfl rfl ?_
              refine q_iadd rfl rfl (q_tn (z := 78) rfl ?_)
              refine q_lconst rfl rfl ?_
              refine q_last rfl rfl (by decide) rfl (by decide) ?_
              refine q_icc2 (z := 19) rfl rfl rfl rfl rfl ?_
              refine q_goto rfl ?_
              refine q_iload_n rfl rfl rfl ?_
              refine q_bipush rfl rfl ?_
              refine q_icge rfl rfl (fun c117 => absurd c117 (by decide)) (fun c117 => ?_)
              refine q_aload_n rfl rfl rfl ?_
              refine q_getf rfl rfl (by decide) (FW_46 S hW) rfl ?_
              refine q_bipush rfl rfl ?_
              refine q_iload_n rfl rfl rfl ?_
              refine q_imul rfl rfl (q_tn (z := 60) rfl ?_)
              refine q_iload_n rfl rfl rfl ?_
              refine q_iadd rfl rfl (q_tn (z := 79) rfl ?_)
              refine q_lconst rfl rfl ?_
              refine q_last rfl rfl (by decide) rfl (by decide) ?_
              refine q_icc2 (z := 20) rfl rfl rfl rfl rfl ?_
              refine q_goto rfl ?_
              refine q_iload_n rfl rfl rfl ?_
              refine q_bipush rfl rfl ?_
              refine q_icge rfl rfl (fun c118 => absurd c118 (by decide)) (fun c118 => ?_)
              refine q_aload_n rfl rfl rfl ?_
              refine q_getf rfl rfl (by decide) (FW_46 S hW) rfl ?_
              refine q_bipush rfl rfl ?_
              refine q_iload_n rfl rfl rfl ?_
              refine q_imul rfl rfl (q_tn (z := 60) rfl ?_)
              refine q_iload_n rfl rfl rfl ?_
              refine q_iadd rfl rfl (q_tn (z := 80) rfl ?_)
              refine q_lconst rfl rfl ?_
              refine q_last rfl rfl (by decide) rfl (by decide) ?_
              refine q_icc2 (z := 21) rfl rfl rfl rfl rfl ?_
              refine q_goto rfl ?_
              refine q_iload_n rfl rfl rfl ?_
              refine q_bipush rfl rfl ?_
              refine q_icge rfl rfl (fun c119 => absurd c119 (by decide)) (fun c119 => ?_)
              refine q_aload_n rfl rfl rfl ?_
              refine q_getf rfl rfl (by decide) (FW_46 S hW) rfl ?_
              refine q_bipush rfl rfl ?_
              refine q_iload_n rfl rfl rfl ?_
              refine q_imul rfl rfl (q_tn (z := 60) rfl ?_)
              refine q_iload_n rfl rfl rfl ?_
              refine q_iadd rfl rfl (q_tn (z := 81) rfl ?_)
              refine q_lconst rfl rfl ?_
              refine q_last rfl rfl (by decide) rfl (by decide) ?_
              refine q_icc2 (z := 22) rfl rfl rfl rfl rfl ?_
              refine q_goto rfl ?_
              refine q_iload_n rfl rfl rfl ?_
              refine q_bipush rfl rfl ?_
              refine q_icge rfl rfl (fun c120 => absurd c120 (by decide)) (fun c120 => ?_)
              refine q_aload_n rfl rfl rfl ?_
              refine q_getf rfl rfl (by decide) (FW_46 S hW) rfl ?_
              refine q_bipush rfl rfl ?_
              refine q_iload_n rfl rfl rfl ?_
              refine q_imul rfl rfl (q_tn (z := 60) rfl ?_)
              refine q_iload_n rfl rfl rfl ?_
              refine q_iadd rfl rfl (q_tn (z := 82) rfl ?_)
              refine q_lconst rfl rfl ?_
              refine q_last rfl rfl (by decide) rfl (by decide) ?_
              refine q_icc2 (z := 23) rfl rfl rfl rfl rfl ?_
              refine q_goto rfl ?_
              refine q_iload_n rfl rfl rfl ?_
              refine q_bipush rfl rfl ?_
              refine q_icge rfl rfl (fun c121 => absurd c121 (by decide)) (fun c121 => ?_)
              refine q_aload_n rfl rfl rfl ?_
              refine q_getf rfl rfl (by decide) (FW_46 S hW) rfl ?_
              refine q_bipush rfl rfl ?_
              refine q_iload_n rfl rfl rfl ?_
              refine q_imul rfl rfl (q_tn (z := 60) rfl ?_)
              refine q_iload_n rfl rfl rfl ?_
              refine q_iadd rfl rfl (q_tn (z := 83) rfl ?_)
              refine q_lconst rfl rfl ?_
              refine q_last rfl rfl (by decide) rfl (by decide) ?_
              refine q_icc2 (z := 24) rfl rfl rfl rfl rfl ?_
              refine q_goto rfl ?_
              refine q_iload_n rfl rfl rfl ?_
              refine q_bipush rfl rfl ?_
              refine q_icge rfl rfl (fun c122 => absurd c122 (by decide)) (fun c122 => ?_)
              refine q_aload_n rfl rfl rfl ?_
              refine q_getf rfl rfl (by decide) (FW_46 S hW) rfl ?_
              refine q_bipush rfl rfl ?_
              refine q_iload_n rfl rfl rfl ?_
              refine q_imul rfl rfl (q_tn (z := 60) rfl ?_)
              refine q_iload_n rfl rfl rfl ?_
              refine q_iadd rfl rfl (q_tn (z := 84) rfl ?_)
              refine q_lconst rfl rfl ?_
              refine q_last rfl rfl (by decide) rfl (by decide) ?_
              refine q_icc2 (z := 25) rfl rfl rfl rfl rfl ?_
              refine q_goto rfl ?_
              refine q_iload_n rfl rfl rfl ?_
              refine q_bipush rfl rfl ?_
              refine q_icge rfl rfl (fun c123 => absurd c123 (by decide)) (fun c123 => ?_)
              refine q_aload_n rfl rfl rfl ?_
              refine q_getf rfl rfl (by decide) (FW_46 S hW) rfl ?_
              refine q_bipush rfl rfl ?_
              refine q_iload_n rfl rfl rfl ?_
              refine q_imul rfl rfl (q_tn (z := 60) rfl ?_)
              refine q_iload_n rfl rfl rfl ?_
              refine q_iadd rfl rfl (q_tn (z := 85) rfl ?_)
              refine q_lconst rfl rfl ?_
              refine q_last rfl rfl (by decide) rfl (by decide) ?_
              refine q_icc2 (z := 26) rfl rfl rfl rfl rfl ?_
              refine q_goto rfl ?_
              refine q_iload_n rfl rfl rfl ?_
              refine q_bipush rfl rfl ?_
              refine q_icge rfl rfl (fun c124 => absurd c124 (by decide)) (fun c124 => ?_)
              refine q_aload_n rfl rfl rfl ?_
              refine q_getf rfl rfl (by decide) (FW_46 S hW) rfl ?_
              refine q_bipush rfl rfl ?_
              refine q_iload_n rfl rfl rfl ?_
              refine q_imul rfl rfl (q_tn (z := 60) rfl ?_)
              refine q_iload_n rfl rfl rfl ?_
              refine q_iadd rfl rfl (q_tn (z := 86) rfl ?_)
              refine q_lconst rfl rfl ?_
              refine q_last rfl rfl (by decide) rfl (by decide) ?_
              refine q_icc2 (z := 27) rfl rfl rfl rfl rfl ?_
              refine q_goto rfl ?_
              refine q_iload_n rfl rfl rfl ?_
              refine q_bipush rfl rfl ?_
              refine q_icge rfl rfl (fun c125 => absurd c125 (by decide)) (fun c125 => ?_)
              refine q_aload_n rfl rfl rfl ?_
              refine q_getf rfl rfl (by decide) (FW_46 S hW) rfl ?_
              refine q_bipush rfl rfl ?_
              refine q_iload_n rfl rfl rfl ?_
              refine q_imul rfl rfl (q_tn (z := 60) rfl ?_)
              refine q_iload_n rfl rfl rfl ?_
              refine q_iadd rfl rfl (q_tn (z := 87) rfl ?_)
              refine q_lconst rfl rfl ?_
              refine q_last rfl rfl (by decide) rfl (by decide) ?_
              refine q_icc2 (z := 28) rfl rfl rfl rfl rfl ?_
              refine q_goto rfl ?_
              refine q_iload_n rfl rfl rfl ?_
              refine q_bipush rfl rfl ?_
              refine q_icge rfl rfl (fun c126 => absurd c126 (by decide)) (fun c126 => ?_)
              refine q_aload_n rfl rfl rfl ?_
              refine q_getf rfl rfl (by decide) (FW_46 S hW) rfl ?_
              refine q_bipush rfl rfl ?_
              refine q_iload_n rfl rfl rfl ?_
              refine q_imul rfl rfl (q_tn (z := 60) rfl ?_)
              refine q_iload_n rfl rfl rfl ?_
              refine q_iadd rfl rfl (q_tn (z := 88) rfl ?_)
              refine q_lconst rfl rfl ?_
              refine q_last rfl rfl (by decide) rfl (by decide) ?_
              refine q_icc2 (z := 29) rfl rfl rfl rfl rfl ?_
              refine q_goto rfl ?_
              refine q_iload_n rfl rfl rfl ?_
              refine q_bipush rfl rfl ?_
              refine q_icge rfl rfl (fun c127 => absurd c127 (by decide)) (fun c127 => ?_)
              refine q_aload_n rfl rfl rfl ?_
              refine q_getf rfl rfl (by decide) (FW_46 S hW) rfl ?_
              refine q_bipush rfl rfl ?_
              refine q_iload_n rfl rfl rfl ?_
              refine q_imul rfl rfl (q_tn (z := 60) rfl ?_)
              refine q_iload_n rfl rfl rfl ?_
              refine q_iadd rfl rfl (q_tn (z := 89) rfl ?_)
              refine q_lconst rfl rfl ?_
              refine q_last rfl rfl (by decide) rfl (by decide) ?_
              refine q_icc2 (z := 30) rfl rfl rfl rfl rfl ?_
              refine q_goto rfl ?_
              refine q_iload_n rfl rfl rfl ?_
              refine q_bipush rfl rfl ?_
              refine q_icge rfl rfl (fun c128 => absurd c128 (by decide)) (fun c128 => ?_)
              refine q_aload_n rfl rfl rfl ?_
              refine q_getf rfl rfl (by decide) (FW_46 S hW) rfl ?_
              refine q_bipush rfl rfl ?_
              refine q_iload_n rfl rfl rfl ?_
              refine q_imul rfl rfl (q_tn (z := 60) rfl ?_)
              refine q_iload_n rfl rfl rfl ?_
              refine q_iadd rfl rfl (q_tn (z := 90) rfl ?_)
              refine q_lconst rfl rfl ?_
              refine q_last rfl rfl (by decide) rfl (by decide) ?_
              refine q_icc2 (z := 31) rfl rfl rfl rfl rfl ?_
              refine q_goto rfl ?_
              refine q_iload_n rfl rfl rfl ?_
              refine q_bipush rfl rfl ?_
              refine q_icge rfl rfl (fun c129 => absurd c129 (by decide)) (fun c129 => ?_)
              refine q_aload_n rfl rfl rfl ?_
              refine q_getf rfl rfl (by decide) (FW_46 S hW) rfl ?_
              refine q_bipush rfl rfl ?_
              refine q_iload_n rfl rfl rfl ?_
              refine q_imul rfl rfl (q_tn (z := 60) rfl ?_)
              refine q_iload_n rfl rfl rfl ?_
              refine q_iadd rfl rfl (q_tn (z := 91) rfl ?_)
              refine q_lconst rfl rfl ?_
              refine q_last rfl rfl (by decide) rfl (by decide) ?_
              refine q_icc2 (z := 32) rfl rfl rfl rfl rfl ?_
              refine q_goto rfl ?_
              refine q_iload_n rfl rfl rfl ?_
              refine q_bipush rfl rfl ?_
              refine q_icge rfl rfl (fun c130 => absurd c130 (by decide)) (fun c130 => ?_)
              refine q_aload_n rfl rfl rfl ?_
              refine q_getf rfl rfl (by decide) (FW_46 S hW) rfl ?_
              refine q_bipush rfl rfl ?_
              refine q_iload_n rfl rfl rfl ?_
              refine q_imul rfl rfl (q_tn (z := 60) rfl ?_)
              refine q_iload_n rfl rfl rfl ?_
              refine q_iadd rfl rfl (q_tn (z := 92) rfl ?_)
              refine q_lconst rfl rfl ?_
              refine q_last rfl rfl (by decide) rfl (by decide) ?_
              refine q_icc2 (z := 33) rfl rfl rfl rfl rfl ?_
              refine q_goto rfl ?_
              refine q_iload_n rfl rfl rfl ?_
              refine q_bipush rfl rfl ?_
              refine q_icge rfl rfl (fun c131 => absurd c131 (by decide)) (fun c131 => ?_)
              refine q_aload_n rfl rfl rfl ?_
              refine q_getf rfl rfl (by decide) (FW_46 S hW) rfl ?_
              refine q_bipush rfl rfl ?_
              refine q_iload_n rfl rfl rfl ?_
              refine q_imul rfl rfl (q_tn (z := 60) rfl ?_)
              refine q_iload_n rfl rfl rfl ?_
              refine q_iadd rfl rfl (q_tn (z := 93) rfl ?_)
              refine q_lconst rfl rfl ?_
              refine q_last rfl rfl (by decide) rfl (by decide) ?_
              refine q_icc2 (z := 34) rfl rfl rfl rfl rfl ?_
              refine q_goto rfl ?_
              refine q_iload_n rfl rfl rfl ?_
              refine q_bipush rfl rfl ?_
              refine q_icge rfl rfl (fun c132 => absurd c132 (by decide)) (fun c132 => ?_)
              refine q_aload_n rfl rfl rfl ?_
              refine q_getf rfl rfl (by decide) (FW_46 S hW) rfl ?_
              refine q_bipush rfl rfl ?_
              refine q_iload_n rfl rfl rfl ?_
              refine q_imul rfl rfl (q_tn (z := 60) rfl ?_)
              refine q_iload_n rfl rfl rfl ?_
              refine q_iadd rfl rfl (q_tn (z := 94) rfl ?_)
              refine q_lconst rfl rfl ?_
              refine q_last rfl rfl (by decide) rfl (by decide) ?_
              refine q_icc2 (z := 35) rfl rfl rfl rfl rfl ?_
              refine q_goto rfl ?_
              refine q_iload_n rfl rfl rfl ?_
              refine q_bipush rfl rfl ?_
              refine q_icge rfl rfl (fun c133 => absurd c133 (by decide)) (fun c133 => ?_)
              refine q_aload_n rfl rfl rfl ?_
              refine q_getf rfl rfl (by decide) (FW_46 S hW) rfl ?_
              refine q_bipush rfl rfl ?_
              refine q_iload_n rfl rfl rfl ?_
              refine q_imul rfl rfl (q_tn (z := 60) rfl ?_)
              refine q_iload_n rfl rfl rfl ?_
              refine q_iadd rfl rfl (q_tn (z := 95) rfl ?_)
              refine q_lconst rfl rfl ?_
              refine q_last rfl rfl (by decide) rfl (by decide) ?_
              refine q_icc2 (z := 36) rfl rfl rfl rfl rfl ?_
              refine q_goto rfl ?_
              refine q_iload_n rfl rfl rfl ?_
              refine q_bipush rfl rfl ?_
              refine q_icge rfl rfl (fun c134 => absurd c134 (by decide)) (fun c134 => ?_)
              refine q_aload_n rfl rfl rfl ?_
              refine q_getf rfl rfl (by decide) (FW_46 S hW) rfl ?_
              refine q_bipush rfl rfl ?_
              refine q_iload_n rfl rfl rfl ?_
              refine q_imul rfl rfl (q_tn (z := 60) rfl ?_)
              refine q_iload_n rfl rfl rfl ?_
              refine q_iadd rfl rfl (q_tn (z := 96) rfl ?_)
              refine q_lconst rfl rfl ?_
              refine q_last rfl rfl (by decide) rfl (by decide) ?_
              refine q_icc2 (z := 37) rfl rfl rfl rfl rfl ?_
              refine q_goto rfl ?_
              refine q_iload_n rfl rfl rfl ?_
              refine q_bipush rfl rfl ?_
              refine q_icge rfl rfl (fun c135 => absurd c135 (by decide)) (fun c135 => ?_)
              refine q_aload_n rfl rfl rfl ?_
              refine q_getf rfl rfl (by decide) (FW_46 S hW) rfl ?_
              refine q_bipush rfl rfl ?_
              refine q_iload_n rfl rfl rfl ?_
              refine q_imul rfl rfl (q_tn (z := 60) rfl ?_)
              refine q_iload_n rfl rfl rfl ?_
              refine q_iadd rfl rfl (q_tn (z := 97) rfl ?_)
              refine q_lconst rfl rfl ?_
              refine q_last rfl rfl (by decide) rfl (by decide) ?_
              refine q_icc2 (z := 38) rfl rfl rfl rfl rfl ?_
              refine q_goto rfl ?_
              refine q_iload_n rfl rfl rfl ?_
              refine q_bipush rfl rfl ?_
              refine q_icge rfl rfl (fun c136 => absurd c136 (by decide)) (fun c136 => ?_)
              refine q_aload_n rfl rfl rfl ?_
              refine q_getf rfl rfl (by decide) (FW_46 S hW) rfl ?_
              refine q_bipush rfl rfl ?_
              refine q_iload_n rfl rfl rfl ?_
              refine q_imul rfl rfl (q_tn (z := 60) rfl ?_)
              refine q_iload_n rfl rfl rfl ?_
              refine q_iadd rfl rfl (q_tn (z := 98) rfl ?_)
              refine q_lconst rfl rfl ?_
              refine q_last rfl rfl (by decide) rfl (by decide) ?_
              refine q_icc2 (z := 39) rfl rfl rfl rfl rfl ?_
              refine q_goto rfl ?_
              refine q_iload_n rfl rfl rfl ?_
              refine q_bipush rfl rfl ?_
              refine q_icge rfl rfl (fun c137 => absurd c137 (by decide)) (fun c137 => ?_)
              refine q_aload_n rfl rfl rfl ?_
              refine q_getf rfl rfl (by decide) (FW_46 S hW) rfl ?_
              refine q_bipush rfl rfl ?_
              refine q_iload_n rfl rfl rfl ?_
              refine q_imul rfl rfl (q_tn (z := 60) rfl ?_)
              refine q_iload_n rfl rfl rfl ?_
              refine q_iadd rfl rfl (q_tn (z := 99) rfl ?_)
              refine q_lconst rfl rfl ?_
              refine q_last rfl rfl (by decide) rfl (by decide) ?_
              refine q_icc2 (z := 40) rfl rfl rfl rfl rfl ?_
              refine q_goto rfl ?_
              refine q_iload_n rfl rfl rfl ?_
              refine q_bipush rfl rfl ?_
              refine q_icge rfl rfl (fun c138 => absurd c138 (by decide)) (fun c138 => ?_)
              refine q_aload_n rfl rfl rfl ?_
              refine q_getf rfl rfl (by decide) (FW_46 S hW) rfl ?_
              refine q_bipush rfl rfl ?_
              refine q_iload_n rfl rfl rfl ?_
              refine q_imul rfl rfl (q_tn (z := 60) rfl ?_)
              refine q_iload_n rfl rfl rfl ?_
              refine q_iadd rfl rfl (q_tn (z := 100) rfl ?_)
              refine q_lconst rfl rfl ?_
              refine q_last rfl rfl (by decide) rfl (by decide) ?_
              refine q_icc2 (z := 41) rfl rfl rfl rfl rfl ?_
              refine q_goto rfl ?_
              refine q_iload_n rfl rfl rfl ?_
              refine q_bipush rfl rfl ?_
              refine q_icge rfl rfl (fun c139 => absurd c139 (by decide)) (fun c139 => ?_)
              refine q_aload_n rfl rfl rfl ?_
              refine q_getf rfl rfl (by decide) (FW_46 S hW) rfl ?_
              refine q_bipush rfl rfl ?_
              refine q_iload_n rfl rfl rfl ?_
              refine q_imul rfl rfl (q_tn (z := 60) rfl ?_)
              refine q_iload_n rfl rfl rfl ?_
              refine q_iadd rfl rfl (q_tn (z := 101) rfl ?_)
              refine q_lconst rfl rfl ?_
              refine q_last rfl rfl (by decide) rfl (by decide) ?_
              refine q_icc2 (z := 42) rfl rfl rfl rfl rfl ?_
              refine q_goto rfl ?_
              refine q_iload_n rfl rfl rfl ?_
              refine q_bipush rfl rfl ?_
              refine q_icge rfl rfl (fun c140 => absurd c140 (by decide)) (fun c140 => ?_)
              refine q_aload_n rfl rfl rfl ?_
              refine q_getf rfl rfl (by decide) (FW_46 S hW) rfl ?_
              refine q_bipush rfl rfl ?_
              refine q_iload_n rfl rfl rfl ?_
              refine q_imul rfl rfl (q_tn (z := 60) rfl ?_)
              refine q_iload_n rfl rfl rfl ?_
              refine q_iadd rfl rfl (q_tn (z := 102) rfl ?_)
              refine q_lconst rfl rfl ?_
              refine q_last rfl rfl (by decide) rfl (by decide) ?_
              refine q_icc2 (z := 43) rfl rfl rfl rfl rfl ?_
              refine q_goto rfl ?_
              refine q_iload_n rfl rfl rfl ?_
              refine q_bipush rfl rfl ?_
              refine q_icge rfl rfl (fun c141 => absurd c141 (by decide)) (fun c141 => ?_)
              refine q_aload_n rfl rfl rfl ?_
              refine q_getf rfl rfl (by decide) (FW_46 S hW) rfl ?_
              refine q_bipush rfl rfl ?_
              refine q_iload_n rfl rfl rfl ?_
              refine q_imul rfl rfl (q_tn (z := 60) rfl ?_)
              refine q_iload_n rfl rfl rfl ?_
              refine q_iadd rfl rfl (q_tn (z := 103) rfl ?_)
              refine q_lconst rfl rfl ?_
              refine q_last rfl rfl (by decide) rfl (by decide) ?_
              refine q_icc2 (z := 44) rfl rfl rfl rfl rfl ?_
              refine q_goto rfl ?_
              refine q_iload_n rfl rfl rfl ?_
              refine q_bipush rfl rfl ?_
              refine q_icge rfl rfl (fun c142 => absurd c142 (by decide)) (fun c142 => ?_)
              refine q_aload_n rfl rfl rfl ?_
              refine q_getf rfl rfl (by decide) (FW_46 S hW) rfl ?_
              refine q_bipush rfl rfl ?_
              refine q_iload_n rfl rfl rfl ?_
              refine q_imul rfl rfl (q_tn (z := 60) rfl ?_)
              refine q_iload_n rfl rfl rfl ?_
              refine q_iadd rfl rfl (q_tn (z := 104) rfl ?_)
              refine q_lconst rfl rfl ?_
              refine q_last rfl rfl (by decide) rfl (by decide) ?_
              refine q_icc2 (z := 45) rfl rfl rfl rfl rfl ?_
              refine q_goto rfl ?_
              refine q_iload_n rfl rfl rfl ?_
              refine q_bipush rfl rfl ?_
              refine q_icge rfl rfl (fun c143 => absurd c143 (by decide)) (fun c143 => ?_)
              refine q_aload_n rfl rfl rfl ?_
              refine q_getf rfl rfl (by decide) (FW_46 S hW) rfl ?_
              refine q_bipush rfl rfl ?_
              refine q_iload_n rfl rfl rfl ?_
              refine q_imul rfl rfl (q_tn (z := 60) rfl ?_)
              refine q_iload_n rfl rfl rfl ?_
              refine q_iadd rfl rfl (q_tn (z := 105) rfl ?_)
              refine q_lconst rfl rfl ?_
              refine q_last rfl rfl (by decide) rfl (by decide) ?_
              refine q_icc2 (z := 46) rfl rfl rfl rfl rfl ?_
              refine q_goto rfl ?_
              refine q_iload_n rfl rfl rfl ?_
              refine q_bipush rfl rfl ?_
              refine q_icge rfl rfl (fun c144 => absurd c144 (by decide)) (fun c144 => ?_)
              refine q_aload_n rfl rfl rfl ?_
              refine q_getf rfl rfl (by decide) (FW_46 S hW) rfl ?_
              refine q_bipush rfl rfl ?_
              refine q_iload_n rfl rfl rfl ?_
              refine q_imul rfl rfl (q_tn (z := 60) rfl ?_)
              refine q_iload_n rfl rfl rfl ?_
              refine q_iadd rfl rfl (q_tn (z := 106) rfl ?_)
              refine q_lconst rfl rfl ?_
              refine q_last rfl rfl (by decide) rfl (by decide) ?_
              refine q_icc2 (z := 47) rfl rfl rfl rfl rfl ?_
              refine q_goto rfl ?_
              refine q_iload_n rfl rfl rfl ?_
              refine q_bipush rfl rfl ?_
              refine q_icge rfl rfl (fun c145 => absurd c145 (by decide)) (fun c145 => ?_)
              refine q_aload_n rfl rfl rfl ?_
              refine q_getf rfl rfl (by decide) (FW_46 S hW) rfl ?_
              refine q_bipush rfl rfl ?_
              refine q_iload_n rfl rfl rfl ?_
              refine q_imul rfl rfl (q_tn (z := 60) rfl ?_)
              refine q_iload_n rfl rfl rfl ?_
              refine q_iadd rfl rfl (q_tn (z := 107) rfl ?_)
              refine q_lconst rfl rfl ?_
              refine q_last rfl rfl (by decide) rfl (by decide) ?_
              refine q_icc2 (z := 48) rfl rfl rfl rfl rfl ?_
              refine q_goto rfl ?_
              refine q_iload_n rfl rfl rfl ?_
              refine q_bipush rfl rfl ?_
              refine q_icge rfl rfl (fun c146 => absurd c146 (by decide)) (fun c146 => ?_)
              refine q_aload_n rfl rfl rfl ?_
              refine q_getf rfl rfl (by decide) (FW_46 S hW) rfl ?_
              refine q_bipush rfl rfl ?_
              refine q_iload_n rfl rfl rfl ?_
              refine q_imul rfl rfl (q_tn (z := 60) rfl ?_)
              refine q_iload_n rfl rfl rfl ?_
              refine q_iadd rfl rfl (q_tn (z := 108) rfl ?_)
              refine q_lconst rfl rfl ?_
              refine q_last rfl rfl (by decide) rfl (by decide) ?_
              refine q_icc2 (z := 49) rfl rfl rfl rfl rfl ?_
              refine q_goto rfl ?_
              refine q_iload_n rfl rfl rfl ?_
              refine q_bipush rfl rfl ?_
              refine q_icge rfl rfl (fun c147 => absurd c147 (by decide)) (fun c147 => ?_)
              refine q_aload_n rfl rfl rfl ?_
              refine q_getf rfl rfl (by decide) (FW_46 S hW) rfl ?_
              refine q_bipush rfl rfl ?_
              refine q_iload_n rfl rfl rfl ?_
              refine q_imul rfl rfl (q_tn (z := 60) rfl ?_)
              refine q_iload_n rfl rfl rfl ?_
              refine q_iadd rfl rfl (q_tn (z := 109) rfl ?_)
              refine q_lconst rfl rfl ?_
              refine q_last rfl rfl (by decide) rfl (by decide) ?_
              refine q_icc2 (z := 50) rfl rfl rfl rfl rfl ?_
              refine q_goto rfl ?_
              refine q_iload_n rfl rfl rfl ?_
              refine q_bipush rfl rfl ?_
              refine q_icge rfl rfl (fun c148 => absurd c148 (by decide)) (fun c148 => ?_)
              refine q_aload_n rfl rfl rfl ?_
              refine q_getf rfl rfl (by decide) (FW_46 S hW) rfl ?_
              refine q_bipush rfl rfl ?_
              refine q_iload_n rfl rfl rfl ?_
              refine q_imul rfl rfl (q_tn (z := 60) rfl ?_)
              refine q_iload_n rfl rfl rfl ?_
              refine q_iadd rfl rfl (q_tn (z := 110) rfl ?_)
              refine q_lconst rfl rfl ?_
              refine q_last rfl rfl (by decide) rfl (by decide) ?_
              refine q_icc2 (z := 51) rfl rfl rfl rfl rfl ?_
              refine q_goto rfl ?_
              refine q_iload_n rfl rfl rfl ?_
              refine q_bipush rfl rfl ?_
              refine q_icge rfl rfl (fun c149 => absurd c149 (by decide)) (fun c149 => ?_)
              refine q_aload_n rfl rfl rfl ?_
              refine q_getf rfl rfl (by decide) (FW_46 S hW) rfl ?_
              refine q_bipush rfl rfl ?_
              refine q_iload_n rfl rfl rfl ?_
              refine q_imul rfl rfl (q_tn (z := 60) rfl ?_)
              refine q_iload_n rfl rfl rfl ?_
              refine q_iadd rfl rfl (q_tn (z := 111) rfl ?_)
              refine q_lconst rfl rfl ?_
              refine q_last rfl rfl (by decide) rfl (by decide) ?_
              refine q_icc2 (z := 52) rfl rfl rfl rfl rfl ?_
              refine q_goto rfl ?_
              refine q_iload_n rfl rfl rfl ?_
              refine q_bipush rfl rfl ?_
              refine q_icge rfl rfl (fun c150 => absurd c150 (by decide)) (fun c150 => ?_)
              refine q_aload_n rfl rfl rfl ?_
              refine q_getf rfl rfl (by decide) (FW_46 S hW) rfl ?_
              refine q_bipush rfl rfl ?_
              refine q_iload_n rfl rfl rfl ?_
              refine q_imul rfl rfl (q_tn (z := 60) rfl ?_)
              refine q_iload_n rfl rfl rfl ?_
              refine q_iadd rfl rfl (q_tn (z := 112) rfl ?_)
              refine q_lconst rfl rfl ?_
              refine q_last rfl rfl (by decide) rfl (by decide) ?_
              refine q_icc2 (z := 53) rfl rfl rfl rfl rfl ?_
              refine q_goto rfl ?_
              refine q_iload_n rfl rfl rfl ?_
              refine q_bipush rfl rfl ?_
              refine q_icge rfl rfl (fun c151 => absurd c151 (by decide)) (fun c151 => ?_)
              refine q_aload_n rfl rfl rfl ?_
              refine q_getf rfl rfl (by decide) (FW_46 S hW) rfl ?_
              refine q_bipush rfl rfl ?_
              refine q_iload_n rfl rfl rfl ?_
              refine q_imul rfl rfl (q_tn (z := 60) rfl ?_)
              refine q_iload_n rfl rfl rfl ?_
              refine q_iadd rfl rfl (q_tn (z := 113) rfl ?_)
              refine q_lconst rfl rfl ?_
              refine q_last rfl rfl (by decide) rfl (by decide) ?_
              refine q_icc2 (z := 54) rfl rfl rfl rfl rfl ?_
              refine q_goto rfl ?_
              refine q_iload_n rfl rfl rfl ?_
              refine q_bipush rfl rfl ?_
              refine q_icge rfl rfl (fun c152 => absurd c152 (by decide)) (fun c152 => ?_)
              refine q_aload_n rfl rfl rfl ?_
              refine q_getf rfl rfl (by decide) (FW_46 S hW) rfl ?_
              refine q_bipush rfl rfl ?_
              refine q_iload_n rfl rfl rfl ?_
              refine q_imul rfl rfl (q_tn (z := 60) rfl ?_)
              refine q_iload_n rfl rfl rfl ?_
              refine q_iadd rfl rfl (q_tn (z := 114) rfl ?_)
              refine q_lconst rfl rfl ?_
              refine q_last rfl rfl (by decide) rfl (by decide) ?_
              refine q_icc2 (z := 55) rfl rfl rfl rfl rfl ?_
              refine q_goto rfl ?_
              refine q_iload_n rfl rfl rfl ?_
              refine q_bipush rfl rfl ?_
              refine q_icge rfl rfl (fun c153 => absurd c153 (by decide)) (fun c153 => ?_)
              refine q_aload_n rfl rfl rfl ?_
              refine q_getf rfl rfl (by decide) (FW_46 S hW) rfl ?_
              refine q_bipush rfl rfl ?_
              refine q_iload_n rfl rfl rfl ?_
              refine q_imul rfl rfl (q_tn (z := 60) rfl ?_)
              refine q_iload_n rfl rfl rfl ?_
              refine q_iadd rfl rfl (q_tn (z := 115) rfl ?_)
              refine q_lconst rfl rfl ?_
              refine q_last rfl rfl (by decide) rfl (by decide) ?_
              refine q_icc2 (z := 56) rfl rfl rfl rfl rfl ?_
              refine q_goto rfl ?_
              refine q_iload_n rfl rfl rfl ?_
              refine q_bipush rfl rfl ?_
              refine q_icge rfl rfl (fun c154 => absurd c154 (by decide)) (fun c154 => ?_)
              refine q_aload_n rfl rfl rfl ?_
              refine q_getf rfl rfl (by decide) (FW_46 S hW) rfl ?_
              refine q_bipush rfl rfl ?_
              refine q_iload_n rfl rfl rfl ?_
              refine q_imul rfl rfl (q_tn (z := 60) rfl ?_)
              refine q_iload_n rfl rfl rfl ?_
              refine q_iadd rfl rfl (q_tn (z := 116) rfl ?_)
              refine q_lconst rfl rfl ?_
              refine q_last rfl rfl (by decide) rfl (by decide) ?_
              refine q_icc2 (z := 57) rfl rfl rfl rfl rfl ?_
              refine q_goto rfl ?_
              refine q_iload_n rfl rfl rfl ?_
              refine q_bipush rfl rfl ?_
              refine q_icge rfl rfl (fun c155 => absurd c155 (by decide)) (fun c155 => ?_)
              refine q_aload_n rfl rfl rfl ?_
              refine q_getf rfl rfl (by decide) (FW_46 S hW) rfl ?_
              refine q_bipush rfl rfl ?_
              refine q_iload_n rfl rfl rfl ?_
              refine q_imul rfl rfl (q_tn (z := 60) rfl ?_)
              refine q_iload_n rfl rfl rfl ?_
              refine q_iadd rfl rfl (q_tn (z := 117) rfl ?_)
              refine q_lconst rfl rfl ?_
              refine q_last rfl rfl (by decide) rfl (by decide) ?_
              refine q_icc2 (z := 58) rfl rfl rfl rfl rfl ?_
              refine q_goto rfl ?_
              refine q_iload_n rfl rfl rfl ?_
              refine q_bipush rfl rfl ?_
              refine q_icge rfl rfl (fun c156 => absurd c156 (by decide)) (fun c156 => ?_)
              refine q_aload_n rfl rfl rfl ?_
              refine q_getf rfl rfl (by decide) (FW_46 S hW) rfl ?_
              refine q_bipush rfl rfl ?_
              refine q_iload_n rfl rfl rfl ?_
              refine q_imul rfl rfl (q_tn (z := 60) rfl ?_)
              refine q_iload_n rfl rfl rfl ?_
              refine q_iadd rfl rfl (q_tn (z := 118) rfl ?_)
              refine q_lconst rfl rfl ?_
              refine q_last rfl rfl (by decide) rfl (by decide) ?_
              refine q_icc2 (z := 59) rfl rfl rfl rfl rfl ?_
              refine q_goto rfl ?_
              refine q_iload_n rfl rfl rfl ?_
              refine q_bipush rfl rfl ?_
              refine q_icge rfl rfl (fun c157 => absurd c157 (by decide)) (fun c157 => ?_)
              refine q_aload_n rfl rfl rfl ?_
              refine q_getf rfl rfl (by decide) (FW_46 S hW) rfl ?_
              refine q_bipush rfl rfl ?_
              refine q_iload_n rfl rfl rfl ?_
              refine q_imul rfl rfl (q_tn (z := 60) rfl ?_)
              refine q_iload_n rfl rfl rfl ?_
              refine q_iadd rfl rfl (q_tn (z := 119) rfl ?_)
              refine q_lconst rfl rfl ?_
              refine q_last rfl rfl (by decide) rfl (by decide) ?_
              refine q_icc2 (z := 60) rfl rfl rfl rfl rfl ?_
              refine q_goto rfl ?_
              refine q_iload_n rfl rfl rfl ?_
              refine q_bipush rfl rfl ?_
              refine q_icge rfl rfl (fun c158 => ?_) (fun c158 => absurd (by decide) c158)
              refine q_ret rfl rfl ?_
              refine ⟨rfl, ?_⟩
              refine q_iconst rfl rfl ?_
              refine q_iret rfl rfl trivial ?_
              refine ⟨_, rfl, ?_⟩
              refine q_iceq rfl rfl (fun c159 => ?_) (fun c159 => absurd (by decide) c159)
              refine q_icc4 (z := 6) rfl rfl rfl rfl rfl ?_
              refine q_goto rfl ?_
              refine q_iload rfl rfl rfl ?_
              refine q_aload_nF rfl rfl rfl ?_
              refine q_alenX (x := 6) rfl rfl rfl ?_
              refine q_bipush rfl rfl ?_
              refine q_isub rfl rfl (q_tn (z := 0) rfl ?_)
              refine q_icgt rfl rfl (fun c160 => ?_) (fun c160 => absurd (by decide) c160)
              refine q_iconst rfl rfl ?_
              refine q_iret rfl rfl rfl ?_
              exact hK _ _
            · refine q_aast rfl rfl (by decide) (by decide) (FW_43 S hW) rfl rfl (by decide) ?_
              refine q_iconst rfl rfl ?_
              refine q_iret rfl rfl trivial ?_
              refine ⟨_, rfl, ?_⟩
              refine q_aload_n rfl rfl rfl ?_
              refine q_aload_nF rfl rfl rfl ?_
              refine q_iload rfl rfl rfl ?_
              refine q_iconst rfl rfl ?_
              refine q_iadd rfl rfl (q_tn (z := 1) rfl ?_)
              refine q_ialdX (x := 2) rfl rfl rfl hx1 ?_
              refine q_aload_nF rfl rfl rfl ?_
              refine q_iload rfl rfl rfl ?_
              refine q_iconst rfl rfl ?_
              refine q_iadd rfl rfl (q_tn (z := 2) rfl ?_)
              refine q_ialdX (x := 3) rfl rfl rfl hx2 ?_
              refine q_aload_nF rfl rfl rfl ?_
              refine q_iload rfl rfl rfl ?_
              refine q_iconst rfl rfl ?_
              refine q_iadd rfl rfl (q_tn (z := 3) rfl ?_)
              refine q_ialdX (x := x3) rfl rfl rfl hx3 ?_
              refine q_nV3 rfl rfl (Or.inl rfl) rfl rfl rfl (by decide) (FW_46 S hW) ⟨rfl, rfl⟩ rfl ?_
              change PQ _ _ _ mm_X12_make 0 [.ref 46, .int 2, .int 3, .int x3] [] _ _ 0 0 _
              refine q_aload_n rfl rfl rfl ?_
              refine q_iload_n rfl rfl rfl ?_
              refine q_nV1 rfl rfl (Or.inl rfl) rfl rfl rfl (by decide) (FW_46 S hW) ⟨rfl, rfl⟩ rfl ?_
              change PQ _ _ _ mm_X12_isShelf 0 [.ref 46, .int 2] [] _ _ 0 0 _
              refine q_aload_n rfl rfl rfl ?_
              refine q_iload_n rfl rfl rfl ?_
              refine q_iconst rfl rfl ?_
              refine q_bipush rfl rfl ?_
              refine q_nV3 rfl rfl (Or.inl rfl) rfl rfl rfl (by decide) (FW_46 S hW) ⟨rfl, rfl⟩ rfl ?_
              change PQ _ _ _ mm_X12_in 0 [.ref 46, .int 2, .int 0, .int 7] [] _ _ 0 0 _
              refine q_iload_n rfl rfl rfl ?_
              refine q_iload_n rfl rfl rfl ?_
              refine q_iclt rfl rfl (fun c161 => absurd c161 (by decide)) (fun c161 => ?_)
              refine q_iload_n rfl rfl rfl ?_
              refine q_iload_n rfl rfl rfl ?_
              refine q_icgt rfl rfl (fun c162 => absurd c162 (by decide)) (fun c162 => ?_)
              refine q_iconst rfl rfl ?_
              refine q_goto rfl ?_
              refine q_iret rfl rfl rfl ?_
              refine ⟨_, rfl, ?_⟩
              refine q_iret rfl rfl rfl ?_
              refine ⟨_, rfl, ?_⟩
              refine q_ifeq rfl rfl (fun c163 => absurd c163 (by decide)) (fun c163 => ?_)
              refine q_aload_n rfl rfl rfl ?_
              refine q_iload_n rfl rfl rfl ?_
              refine q_iconst rfl rfl ?_
              refine q_iconst rfl rfl ?_
              refine q_nV3 rfl rfl (Or.inl rfl) rfl rfl rfl (by decide) (FW_46 S hW) ⟨rfl, rfl⟩ rfl ?_
              change PQ _ _ _ mm_X12_in 0 [.ref 46, .int 3, .int 3, .int 4] [] _ _ 0 0 _
              refine q_iload_n rfl rfl rfl ?_
              refine q_iload_n rfl rfl rfl ?_
              refine q_iclt rfl rfl (fun c164 => absurd c164 (by decide)) (fun c164 => ?_)
              refine q_iload_n rfl rfl rfl ?_
              refine q_iload_n rfl rfl rfl ?_
              refine q_icgt rfl rfl (fun c165 => absurd c165 (by decide)) (fun c165 => ?_)
              refine q_iconst rfl rfl ?_
              refine q_goto rfl ?_
              refine q_iret rfl rfl rfl ?_
              refine ⟨_, rfl, ?_⟩
              refine q_ifeq rfl rfl (fun c166 => absurd c166 (by decide)) (fun c166 => ?_)
              refine q_iload_n rfl rfl rfl ?_
              refine q_bipush rfl rfl ?_
              refine q_icle rfl rfl (fun c167 => ?_) (fun c167 => absurd (i_le_t c16 rfl) c167)
              refine q_iload_n rfl rfl rfl ?_
              refine q_ifge rfl rfl (fun c168 => ?_) (fun c168 => absurd (i_ge_t c17 rfl) c168)
              refine q_aload_n rfl rfl rfl ?_
              refine q_getf rfl rfl (by decide) (FW_46 S hW) rfl ?_
              refine q_iload_n rfl rfl rfl ?_
              refine q_iload_n rfl rfl rfl ?_
              refine q_iast rfl rfl (by decide) (FW_75 S hW) (by decide) ?_
              refine q_aload_n rfl rfl rfl ?_
              refine q_getf rfl rfl (by decide) (FW_46 S hW) rfl ?_
              refine q_iload_n rfl rfl rfl ?_
              refine q_iload_n rfl rfl rfl ?_
              refine q_iast rfl rfl (by decide) (FW_78 S hW) (by decide) ?_
              refine q_aload_n rfl rfl rfl ?_
              refine q_iload_n rfl rfl rfl ?_
              refine q_nV1v rfl rfl (Or.inl rfl) rfl rfl rfl (by decide) (FW_46 S hW) ⟨rfl, rfl⟩ rfl ?_
              change PQ _ _ _ mm_X12_clear 0 [.ref 46, .int 2, pm_un] [] _ _ 0 0 _
              refine q_iconst rfl rfl ?_
              refine q_ist2n rfl rfl rfl rfl ?_
              refine q_iload_n rfl rfl rfl ?_
              refine q_bipush rfl rfl ?_
              refine q_icge rfl rfl (fun c169 => absurd c169 (by decide)) (fun c169 => ?_)
              refine q_aload_n rfl rfl rfl ?_
              refine q_getf rfl rfl (by decide) (FW_46 S hW) rfl ?_
              refine q_bipush rfl rfl ?_
              refine q_iload_n rfl rfl rfl ?_
              refine q_imul rfl rfl (q_tn (z := 120) rfl ?_)
              refine q_iload_n rfl rfl rfl ?_
              refine q_iadd rfl rfl (q_tn (z := 120) rfl ?_)
              refine q_lconst rfl rfl ?_
              refine q_last rfl rfl (by decide) (FW_79 S hW) (by decide) ?_
              refine q_icc2 (z := 1) rfl rfl rfl rfl rfl ?_
              refine q_goto rfl ?_
              refine q_iload_n rfl rfl rfl ?_
              refine q_bipush rfl rfl ?_
              refine q_icge rfl rfl (fun c170 => absurd c170 (by decide)) (fun c170 => ?_)
              refine q_aload_n rfl rfl rfl ?_
              refine q_getf rfl rfl (by decide) (FW_46 S hW) rfl ?_
              refine q_bipush rfl rfl ?_
              refine q_iload_n rfl rfl rfl ?_
              refine q_imul rfl rfl (q_tn (z := 120) rfl ?_)
              refine q_iload_n rfl rfl rfl ?_
              refine q_iadd rfl rfl (q_tn (z := 121) rfl ?_)
              refine q_lconst rfl rfl ?_
              refine q_last rfl rfl (by decide) rfl (by decide) ?_
              refine q_icc2 (z := 2) rfl rfl rfl rfl rfl ?_
              refine q_goto rfl ?_
              refine q_iload_n rfl rfl rfl ?_
              refine q_bipush rfl rfl ?_
              refine q_icge rfl rfl (fun c171 => absurd c171 (by decide)) (fun c171 => ?_)
              refine q_aload_n rfl rfl rfl ?_
              refine q_getf rfl rfl (by decide) (FW_46 S hW) rfl ?_
              refine q_bipush rfl rfl ?_
              refine q_iload_n rfl rfl rfl ?_
              refine q_imul rfl rfl (q_tn (z := 120) rfl ?_)
              refine q_iload_n rfl rfl rfl ?_
              refine q_iadd rfl rfl (q_tn (z := 122) rfl ?_)
              refine q_lconst rfl rfl ?_
              refine q_last rfl rfl (by decide) rfl (by decide) ?_
              refine q_icc2 (z := 3) rfl rfl rfl rfl rfl ?_
              refine q_goto rfl ?_
              refine q_iload_n rfl rfl rfl ?_
              refine q_bipush rfl rfl ?_
              refine q_icge rfl rfl (fun c172 => absurd c172 (by decide)) (fun c172 => ?_)
              refine q_aload_n rfl rfl rfl ?_
              refine q_getf rfl rfl (by decide) (FW_46 S hW) rfl ?_
              refine q_bipush rfl rfl ?_
              refine q_iload_n rfl rfl rfl ?_
              refine q_imul rfl rfl (q_tn (z := 120) rfl ?_)
              refine q_iload_n rfl rfl rfl ?_
              refine q_iadd rfl rfl (q_tn (z := 123) rfl ?_)
              refine q_lconst rfl rfl ?_
              refine q_last rfl rfl (by decide) rfl (by decide) ?_
              refine q_icc2 (z := 4) rfl rfl rfl rfl rfl ?_
              refine q_goto rfl ?_
              refine q_iload_n rfl rfl rfl ?_
              refine q_bipush rfl rfl ?_
              refine q_icge rfl rfl (fun c173 => absurd c173 (by decide)) (fun c173 => ?_)
              refine q_aload_n rfl rfl rfl ?_
              refine q_getf rfl rfl (by decide) (FW_46 S hW) rfl ?_
              refine q_bipush rfl rfl ?_
              refine q_iload_n rfl rfl rfl ?_
              refine q_imul rfl rfl (q_tn (z := 120) rfl ?_)
              refine q_iload_n rfl rfl rfl ?_
              refine q_iadd rfl rfl (q_tn (z := 124) rfl ?_)
              refine q_lconst rfl rfl ?_
              refine q_last rfl rfl (by decide) rfl (by decide) ?_
              refine q_icc2 (z := 5) rfl rfl rfl rfl rfl ?_
              refine q_goto rfl ?_
              refine q_iload_n rfl rfl rfl ?_
              refine q_bipush rfl rfl ?_
              refine q_icge rfl rfl (fun c174 => absurd c174 (by decide)) (fun c174 => ?_)
              refine q_aload_n rfl rfl rfl ?_
              refine q_getf rfl rfl (by decide) (FW_46 S hW) rfl ?_
              refine q_bipush rfl rfl ?_
              refine q_iload_n rfl rfl rfl ?_
              refine q_imul rfl rfl (q_tn (z := 120) rfl ?_)
              refine q_iload_n rfl rfl rfl ?_
              refine q_iadd rfl rfl (q_tn (z := 125) rfl ?_)
              refine q_lconst rfl rfl ?_
              refine q_last rfl rfl (by decide) rfl (by decide) ?_
              refine q_icc2 (z := 6) rfl rfl rfl rfl rfl ?_
              refine q_goto rfl ?_
              refine q_iload_n rfl rfl rfl ?_
              refine q_bipush rfl rfl ?_
              refine q_icge rfl rfl (fun c175 => absurd c175 (by decide)) (fun c175 => ?_)
              refine q_aload_n rfl rfl rfl ?_
              refine q_getf rfl rfl (by decide) (FW_46 S hW) rfl ?_
              refine q_bipush rfl rfl ?_
              refine q_iload_n rfl rfl rfl ?_
              refine q_imul rfl rfl (q_tn (z := 120) rfl ?_)
              refine q_iload_n rfl rfl rfl ?_
              refine q_iadd rfl rfl (q_tn (z := 126) rfl ?_)
              refine q_lconst rfl rfl ?_
              refine q_last rfl rfl (by decide) rfl (by decide) ?_
              refine q_icc2 (z := 7) rfl rfl rfl rfl rfl ?_
              refine q_goto rfl ?_
              refine q_iload_n rfl rfl rfl ?_
              refine q_bipush rfl rfl ?_
              refine q_icge rfl rfl (fun c176 => absurd c176 (by decide)) (fun c176 => ?_)
              refine q_aload_n rfl rfl rfl ?_
              refine q_getf rfl rfl (by decide) (FW_46 S hW) rfl ?_
              refine q_bipush rfl rfl ?_
              refine q_iload_n rfl rfl rfl ?_
              refine q_imul rfl rfl (q_tn (z := 120) rfl ?_)
              refine q_iload_n rfl rfl rfl ?_
              refine q_iadd rfl rfl (q_tn (z := 127) rfl ?_)
              refine q_lconst rfl rfl ?_
              refine q_last rfl rfl (by decide) rfl (by decide) ?_
              refine q_icc2 (z := 8) rfl rfl rfl rfl rfl ?_
              refine q_goto rfl ?_
              refine q_iload_n rfl rfl rfl ?_
              refine q_bipush rfl rfl ?_
              refine q_icge rfl rfl (fun c177 => absurd c177 (by decide)) (fun c177 => ?_)
              refine q_aload_n rfl rfl rfl ?_
              refine q_getf rfl rfl (by decide) (FW_46 S hW) rfl ?_
              refine q_bipush rfl rfl ?_
              refine q_iload_n rfl rfl rfl ?_
              refine q_imul rfl rfl (q_tn (z := 120) rfl ?_)
              refine q_iload_n rfl rfl rfl ?_
              refine q_iadd rfl rfl (q_tn (z := 128) rfl ?_)
              refine q_lconst rfl rfl ?_
              refine q_last rfl rfl (by decide) rfl (by decide) ?_
              refine q_icc2 (z := 9) rfl rfl rfl rfl rfl ?_
              refine q_goto rfl ?_
              refine q_iload_n rfl rfl rfl ?_
              refine q_bipush rfl rfl ?_
              refine q_icge rfl rfl (fun c178 => absurd c178 (by decide)) (fun c178 => ?_)
              refine q_aload_n rfl rfl rfl ?_
              refine q_getf rfl rfl (by decide) (FW_46 S hW) rfl ?_
              refine q_bipush rfl rfl ?_
              refine q_iload_n rfl rfl rfl ?_
              refine q_imul rfl rfl (q_tn (z := 120) rfl ?_)
              refine q_iload_n rfl rfl rfl ?_
              refine q_iadd rfl rfl (q_tn (z := 129) rfl ?_)
              refine q_lconst rfl rfl ?_
              refine q_last rfl rfl (by decide) rfl (by decide) ?_
              refine q_icc2 (z := 10) rfl rfl rfl rfl rfl ?_
              refine q_goto rfl ?_
              refine q_iload_n rfl rfl rfl ?_
              refine q_bipush rfl rfl ?_
              refine q_icge rfl rfl (fun c179 => absurd c179 (by decide)) (fun c179 => ?_)
              refine q_aload_n rfl rfl rfl ?_
              refine q_getf rfl rfl (by decide) (FW_46 S hW) rfl ?_
              refine q_bipush rfl rfl ?_
              refine q_iload_n rfl rfl rfl ?_
              refine q_imul rfl rfl (q_tn (z := 120) rfl ?_)
              refine q_iload_n rfl rfl rfl ?_
              refine q_iadd rfl rfl (q_tn (z := 130) rfl ?_)
              refine q_lconst rfl rfl ?_
              refine q_last rfl rfl (by decide) rfl (by decide) ?_
              refine q_icc2 (z := 11) rfl rfl rfl rfl rfl ?_
              refine q_goto rfl ?_
              refine q_iload_n rfl rfl rfl ?_
              refine q_bipush rfl rfl ?_
              refine q_icge rfl rfl (fun c180 => absurd c180 (by decide)) (fun c180 => ?_)
              refine q_aload_n rfl rfl rfl ?_
              refine q_getf rfl rfl (by decide) (FW_46 S hW) rfl ?_
              refine q_bipush rfl rfl ?_
              refine q_iload_n rfl rfl rfl ?_
              refine q_imul rfl rfl (q_tn (z := 120) rfl ?_)
              refine q_iload_n rfl rfl rfl ?_
              refine q_iadd rfl rfl (q_tn (z := 131) rfl ?_)
              refine q_lconst rfl rfl ?_
              refine q_last rfl rfl (by decide) rfl (by decide) ?_
              refine q_icc2 (z := 12) rfl rfl rfl rfl rfl ?_
              refine q_goto rfl ?_
              refine q_iload_n rfl rfl rfl ?_
              refine q_bipush rfl rfl ?_
              refine q_icge rfl rfl (fun c181 => absurd c181 (by decide)) (fun c181 => ?_)
              refine q_aload_n rfl rfl rfl ?_
              refine q_getf rfl rfl (by decide) (FW_46 S hW) rfl ?_
              refine q_bipush rfl rfl ?_
              refine q_iload_n rfl rfl rfl ?_
              refine q_imul rfl rfl (q_tn (z := 120) rfl ?_)
              refine q_iload_n rfl rfl rfl ?_
              refine q_iadd rfl rfl (q_tn (z := 132) rfl ?_)
              refine q_lconst rfl rfl ?_
              refine q_last rfl rfl (by decide) rfl (by decide) ?_
              refine q_icc2 (z := 13) rfl rfl rfl rfl rfl ?_
              refine q_goto rfl ?_
              refine q_iload_n rfl rfl rfl ?_
              refine q_bipush rfl rfl ?_
              refine q_icge rfl rfl (fun c182 => absurd c182 (by decide)) (fun c182 => ?_)
              refine q_aload_n rfl rfl rfl ?_
              refine q_getf rfl rfl (by decide) (FW_46 S hW) rfl ?_
              refine q_bipush rfl rfl ?_
              refine q_iload_n rfl rfl rfl ?_
              refine q_imul rfl rfl (q_tn (z := 120) rfl ?_)
              refine q_iload_n rfl rfl rfl ?_
              refine q_iadd rfl rfl (q_tn (z := 133) rfl ?_)
              refine q_lconst rfl rfl ?_
              refine q_last rfl rfl (by decide) rfl (by decide) ?_
              refine q_icc2 (z := 14) rfl rfl rfl rfl rfl ?_
              refine q_goto rfl ?_
              refine q_iload_n rfl rfl rfl ?_
              refine q_bipush rfl rfl ?_
              refine q_icge rfl rfl (fun c183 => absurd c183 (by decide)) (fun c183 => ?_)
              refine q_aload_n rfl rfl rfl ?_
              refine q_getf rfl rfl (by decide) (FW_46 S hW) rfl ?_
              refine q_bipush rfl rfl ?_
              refine q_iload_n rfl rfl rfl ?_
              refine q_imul rfl rfl (q_tn (z := 120) rfl ?_)
              refine q_iload_n rfl rfl rfl ?_
              refine q_iadd rfl rfl (q_tn (z := 134) rfl ?_)
              refine q_lconst rfl rfl ?_
              refine q_last rfl rfl (by decide) rfl (by decide) ?_
              refine q_icc2 (z := 15) rfl rfl rfl rfl rfl ?_
              refine q_goto rfl ?_
              refine q_iload_n rfl rfl rfl ?_
              refine q_bipush rfl rfl ?_
              refine q_icge rfl rfl (fun c184 => absurd c184 (by decide)) (fun c184 => ?_)
              refine q_aload_n rfl rfl rfl ?_
              refine q_getf rfl rfl (by decide) (FW_46 S hW) rfl ?_
              refine q_bipush rfl rfl ?_
              refine q_iload_n rfl rfl rfl ?_
              refine q_imul rfl rfl (q_tn (z := 120) rfl ?_)
              refine q_iload_n rfl rfl rfl ?_
              refine q_iadd rfl rfl (q_tn (z := 135) rfl ?_)
              refine q_lconst rfl rfl ?_
              refine q_last rfl rfl (by decide) rfl (by decide) ?_
              refine q_icc2 (z := 16) rfl rfl rfl rfl rfl ?_
              refine q_goto rfl ?_
              refine q_iload_n rfl rfl rfl ?_
              refine q_bipush rfl rfl ?_
              refine q_icge rfl rfl (fun c185 => absurd c185 (by decide)) (fun c185 => ?_)
              refine q_aload_n rfl rfl rfl ?_
              refine q_getf rfl rfl (by decide) (FW_46 S hW) rfl ?_
              refine q_bipush rfl rfl ?_
              refine q_iload_n rfl rfl rfl ?_
              refine q_imul rfl rfl (q_tn (z := 120) rfl ?_)
              refine q_iload_n rfl rfl rfl ?_
              refine q_iadd rfl rfl (q_tn (z := 136) rfl ?_)
              refine q_lconst rfl rfl ?_
              refine q_last rfl rfl (by decide) rfl (by decide) ?_
              refine q_icc2 (z := 17) rfl rfl rfl rfl rfl ?_
              refine q_goto rfl ?_
              refine q_iload_n rfl rfl rfl ?_
              refine q_bipush rfl rfl ?_
              refine q_icge rfl rfl (fun c186 => absurd c186 (by decide)) (fun c186 => ?_)
              refine q_aload_n rfl rfl rfl ?_
              refine q_getf rfl rfl (by decide) (FW_46 S hW) rfl ?_
              refine q_bipush rfl rfl ?_
              refine q_iload_n rfl rfl rfl ?_
              refine q_imul rfl rfl (q_tn (z := 120) rfl ?_)
              refine q_iload_n rfl rfl rfl ?_
              refine q_iadd rfl rfl (q_tn (z := 137) rfl ?_)
              refine q_lconst rfl rfl ?_
              refine q_last rfl rfl (by decide) rfl (by decide) ?_
              refine q_icc2 (z := 18) rfl rfl rfl rfl rfl ?_
              refine q_goto rfl ?_
              refine q_iload_n rfl rfl rfl ?_
              refine q_bipush rfl rfl ?_
              refine q_icge rfl rfl (fun c187 => absurd c187 (by decide)) (fun c187 => ?_)
              refine q_aload_n rfl rfl rfl ?_
              refine q_getf rfl rfl (by decide) (FW_46 S hW) rfl ?_
              refine q_bipush rfl rfl ?_
              refine q_iload_n rfl rfl rfl ?_
              refine q_imul rfl rfl (q_tn (z := 120) rfl ?_)
              refine q_iload_n rfl rfl rfl ?_
              refine q_iadd rfl rfl (q_tn (z := 138) rfl ?_)
              refine q_lconst rfl rfl ?_
              refine q_last rfl rfl (by decide) rfl (by decide) ?_
              refine q_icc2 (z := 19) rfl rfl rfl rfl rfl ?_
              refine q_goto rfl ?_
              refine q_iload_n rfl rfl rfl ?_
              refine q_bipush rfl rfl ?_
              refine q_icge rfl rfl (fun c188 => absurd c188 (by decide)) (fun c188 => ?_)
              refine q_aload_n rfl rfl rfl ?_
              refine q_getf rfl rfl (by decide) (FW_46 S hW) rfl ?_
              refine q_bipush rfl rfl ?_
              refine q_iload_n rfl rfl rfl ?_
              refine q_imul rfl rfl (q_tn (z := 120) rfl ?_)
              refine q_iload_n rfl rfl rfl ?_
              refine q_iadd rfl rfl (q_tn (z := 139) rfl ?_)
              refine q_lconst rfl rfl ?_
              refine q_last rfl rfl (by decide) rfl (by decide) ?_
              refine q_icc2 (z := 20) rfl rfl rfl rfl rfl ?_
              refine q_goto rfl ?_
              refine q_iload_n rfl rfl rfl ?_
              refine q_bipush rfl rfl ?_
              refine q_icge rfl rfl (fun c189 => absurd c189 (by decide)) (fun c189 => ?_)
              refine q_aload_n rfl rfl rfl ?_
              refine q_getf rfl rfl (by decide) (FW_46 S hW) rfl ?_
              refine q_bipush rfl rfl ?_
              refine q_iload_n rfl rfl rfl ?_
              refine q_imul rfl rfl (q_tn (z := 120) rfl ?_)
              refine q_iload_n rfl rfl rfl ?_
              refine q_iadd rfl rfl (q_tn (z := 140) rfl ?_)
              refine q_lconst rfl rfl ?_
              refine q_last rfl rfl (by decide) rfl (by decide) ?_
              refine q_icc2 (z := 21) rfl rfl rfl rfl rfl ?_
              refine q_goto rfl ?_
              refine q_iload_n rfl rfl rfl ?_
              refine q_bipush rfl rfl ?_
              refine q_icge rfl rfl (fun c190 => absurd c190 (by decide)) (fun c190 => ?_)
              refine q_aload_n rfl rfl rfl ?_
              refine q_getf rfl rfl (by decide) (FW_46 S hW) rfl ?_
              refine q_bipush rfl rfl ?_
              refine q_iload_n rfl rfl rfl ?_
              refine q_imul rfl rfl (q_tn (z := 120) rfl ?_)
              refine q_iload_n rfl rfl rfl ?_
              refine q_iadd rfl rfl (q_tn (z := 141) rfl ?_)
              refine q_lconst rfl rfl ?_
              refine q_last rfl rfl (by decide) rfl (by decide) ?_
              refine q_icc2 (z := 22) rfl rfl rfl rfl rfl ?_
              refine q_goto rfl ?_
              refine q_iload_n rfl rfl rfl ?_
              refine q_bipush rfl rfl ?_
              refine q_icge rfl rfl (fun c191 => absurd c191 (by decide)) (fun c191 => ?_)
              refine q_aload_n rfl rfl rfl ?_
              refine q_getf rfl rfl (by decide) (FW_46 S hW) rfl ?_
              refine q_bipush rfl rfl ?_
              refine q_iload_n rfl rfl rfl ?_
              refine q_imul rfl rfl (q_tn (z := 120) rfl ?_)
              refine q_iload_n rfl rfl rfl ?_
              refine q_iadd rfl rfl (q_tn (z := 142) rfl ?_)
              refine q_lconst rfl rfl ?_
              refine q_last rfl rfl (by decide) rfl (by decide) ?_
              refine q_icc2 (z := 23) rfl rfl rfl rfl rfl ?_
              refine q_goto rfl ?_
              refine q_iload_n rfl rfl rfl ?_
              refine q_bipush rfl rfl ?_
              refine q_icge rfl rfl (fun c192 => absurd c192 (by decide)) (fun c192 => ?_)
              refine q_aload_n rfl rfl rfl ?_
              refine q_getf rfl rfl (by decide) (FW_46 S hW) rfl ?_
              refine q_bipush rfl rfl ?_
              refine q_iload_n rfl rfl rfl ?_
              refine q_imul rfl rfl (q_tn (z := 120) rfl ?_)
              refine q_iload_n rfl rfl rfl ?_
              refine q_iadd rfl rfl (q_tn (z := 143) rfl ?_)
              refine q_lconst rfl rfl ?_
              refine q_last rfl rfl (by decide) rfl (by decide) ?_
              refine q_icc2 (z := 24) rfl rfl rfl rfl rfl ?_
              refine q_goto rfl ?_
              refine q_iload_n rfl rfl rfl ?_
              refine q_bipush rfl rfl ?_
              refine q_icge rfl rfl (fun c193 => absurd c193 (by decide)) (fun c193 => ?_)
              refine q_aload_n rfl rfl rfl ?_
              refine q_getf rfl rfl (by decide) (FW_46 S hW) rfl ?_
              refine q_bipush rfl rfl ?_
              refine q_iload_n rfl rfl rfl ?_
              refine q_imul rfl rfl (q_tn (z := 120) rfl ?_)
              refine q_iload_n rfl rfl rfl ?_
              refine q_iadd rfl rfl (q_tn (z := 144) rfl ?_)
              refine q_lconst rfl rfl ?_
              refine q_last rfl rfl (by decide) rfl (by decide) ?_
              refine q_icc2 (z := 25) rfl rfl rfl rfl rfl ?_
              refine q_goto rfl ?_
              refine q_iload_n rfl rfl rfl ?_
              refine q_bipush rfl rfl ?_
              refine q_icge rfl rfl (fun c194 => absurd c194 (by decide)) (fun c194 => ?_)
              refine q_aload_n rfl rfl rfl ?_
              refine q_getf rfl rfl (by decide) (FW_46 S hW) rfl ?_
              refine q_bipush rfl rfl ?_
              refine q_iload_n rfl rfl rfl ?_
              refine q_imul rfl rfl (q_tn (z := 120) rfl ?_)
              refine q_iload_n rfl rfl rfl ?_
              refine q_iadd rfl rfl (q_tn (z := 145) rfl ?_)
              refine q_lconst rfl rfl ?_
              refine q_last rfl rfl (by decide) rfl (by decide) ?_
              refine q_icc2 (z := 26) rfl rfl rfl rfl rfl ?_
              refine q_goto rfl ?_
              refine q_iload_n rfl rfl rfl ?_
              refine q_bipush rfl rfl ?_
              refine q_icge rfl rfl (fun c195 => absurd c195 (by decide)) (fun c195 => ?_)
              refine q_aload_n rfl rfl rfl ?_
              refine q_getf rfl rfl (by decide) (FW_46 S hW) rfl ?_
              refine q_bipush rfl rfl ?_
              refine q_iload_n rfl rfl rfl ?_
              refine q_imul rfl rfl (q_tn (z := 120) rfl ?_)
              refine q_iload_n rfl rfl rfl ?_
              refine q_iadd rfl rfl (q_tn (z := 146) rfl ?_)
              refine q_lconst rfl rfl ?_
              refine q_last rfl rfl (by decide) rfl (by decide) ?_
              refine q_icc2 (z := 27) rfl rfl rfl rfl rfl ?_
              refine q_goto rfl ?_
              refine q_iload_n rfl rfl rfl ?_
              refine q_bipush rfl rfl ?_
              refine q_icge rfl rfl (fun c196 => absurd c196 (by decide)) (fun c196 => ?_)
              refine q_aload_n rfl rfl rfl ?_
              refine q_getf rfl rfl (by decide) (FW_46 S hW) rfl ?_
              refine q_bipush rfl rfl ?_
              refine q_iload_n rfl rfl rfl ?_
              refine q_imul rfl rfl (q_tn (z := 120) rfl ?_)
              refine q_iload_n rfl rfl rfl ?_
              refine q_iadd rfl rfl (q_tn (z := 147) rfl ?_)
              refine q_lconst rfl rfl ?_
              refine q_last rfl rfl (by decide) rfl (by decide) ?_
              refine q_icc2 (z := 28) rfl rfl rfl rfl rfl ?_
              refine q_goto rfl ?_
              refine q_iload_n rfl rfl rfl ?_
              refine q_bipush rfl rfl ?_
              refine q_icge rfl rfl (fun c197 => absurd c197 (by decide)) (fun c197 => ?_)
              refine q_aload_n rfl rfl rfl ?_
              refine q_getf rfl rfl (by decide) (FW_46 S hW) rfl ?_
              refine q_bipush rfl rfl ?_
              refine q_iload_n rfl rfl rfl ?_
              refine q_imul rfl rfl (q_tn (z := 120) rfl ?_)
              refine q_iload_n rfl rfl rfl ?_
              refine q_iadd rfl rfl (q_tn (z := 148) rfl ?_)
              refine q_lconst rfl rfl ?_
              refine q_last rfl rfl (by decide) rfl (by decide) ?_
              refine q_icc2 (z := 29) rfl rfl rfl rfl rfl ?_
              refine q_goto rfl ?_
              refine q_iload_n rfl rfl rfl ?_
              refine q_bipush rfl rfl ?_
              refine q_icge rfl rfl (fun c198 => absurd c198 (by decide)) (fun c198 => ?_)
              refine q_aload_n rfl rfl rfl ?_
              refine q_getf rfl rfl (by decide) (FW_46 S hW) rfl ?_
              refine q_bipush rfl rfl ?_
              refine q_iload_n rfl rfl rfl ?_
              refine q_imul rfl rfl (q_tn (z := 120) rfl ?_)
              refine q_iload_n rfl rfl rfl ?_
              refine q_iadd rfl rfl (q_tn (z := 149) rfl ?_)
              refine q_lconst rfl rfl ?_
              refine q_last rfl rfl (by decide) rfl (by decide) ?_
              refine q_icc2 (z := 30) rfl rfl rfl rfl rfl ?_
              refine q_goto rfl ?_
              refine q_iload_n rfl rfl rfl ?_
              refine q_bipush rfl rfl ?_
              refine q_icge rfl rfl (fun c199 => absurd c199 (by decide)) (fun c199 => ?_)
              refine q_aload_n rfl rfl rfl ?_
              refine q_getf rfl rfl (by decide) (FW_46 S hW) rfl ?_
              refine q_bipush rfl rfl ?_
              refine q_iload_n rfl rfl rfl ?_
              refine q_imul rfl rfl (q_tn (z := 120) rfl ?_)
              refine q_iload_n rfl rfl rfl ?_
              refine q_iadd rfl rfl (q_tn (z := 150) rfl ?_)
              refine q_lconst rfl rfl ?_
              refine q_last rfl rfl (by decide) rfl (by decide) ?_
              refine q_icc2 (z := 31) rfl rfl rfl rfl rfl ?_
              refine q_goto rfl ?_
              refine q_iload_n rfl rfl rfl ?_
              refine q_bipush rfl rfl ?_
              refine q_icge rfl rfl (fun c200 => absurd c200 (by decide)) (fun c200 => ?_)
              refine q_aload_n rfl rfl rfl ?_
              refine q_getf rfl rfl (by decide) (FW_46 S hW) rfl ?_
              refine q_bipush rfl rfl ?_
              refine q_iload_n rfl rfl rfl ?_
              refine q_imul rfl rfl (q_tn (z := 120) rfl ?_)
              refine q_iload_n rfl rfl rfl ?_
              refine q_iadd rfl rfl (q_tn (z := 151) rfl ?_)
              refine q_lconst rfl rfl ?_
              refine q_last rfl rfl (by decide) rfl (by decide) ?_
              refine q_icc2 (z := 32) rfl rfl rfl rfl rfl ?_
              refine q_goto rfl ?_
              refine q_iload_n rfl rfl rfl ?_
              refine q_bipush rfl rfl ?_
              refine q_icge rfl rfl (fun c201 => absurd c201 (by decide)) (fun c201 => ?_)
              refine q_aload_n rfl rfl rfl ?_
              refine q_getf rfl rfl (by decide) (FW_46 S hW) rfl ?_
              refine q_bipush rfl rfl ?_
              refine q_iload_n rfl rfl rfl ?_
              refine q_imul rfl rfl (q_tn (z := 120) rfl ?_)
              refine q_iload_n rfl rfl rfl ?_
              refine q_iadd rfl rfl (q_tn (z := 152) rfl ?_)
              refine q_lconst rfl rfl ?_
              refine q_last rfl rfl (by decide) rfl (by decide) ?_
              refine q_icc2 (z := 33) rfl rfl rfl rfl rfl ?_
              refine q_goto rfl ?_
              refine q_iload_n rfl rfl rfl ?_
              refine q_bipush rfl rfl ?_
              refine q_icge rfl rfl (fun c202 => absurd c202 (by decide)) (fun c202 => ?_)
              refine q_aload_n rfl rfl rfl ?_
              refine q_getf rfl rfl (by decide) (FW_46 S hW) rfl ?_
              refine q_bipush rfl rfl ?_
              refine q_iload_n rfl rfl rfl ?_
              refine q_imul rfl rfl (q_tn (z := 120) rfl ?_)
              refine q_iload_n rfl rfl rfl ?_
              refine q_iadd rfl rfl (q_tn (z := 153) rfl ?_)
              refine q_lconst rfl rfl ?_
              refine q_last rfl rfl (by decide) rfl (by decide) ?_
              refine q_icc2 (z := 34) rfl rfl rfl rfl rfl ?_
              refine q_goto rfl ?_
              refine q_iload_n rfl rfl rfl ?_
              refine q_bipush rfl rfl ?_
              refine q_icge rfl rfl (fun c203 => absurd c203 (by decide)) (fun c203 => ?_)
              refine q_aload_n rfl rfl rfl ?_
              refine q_getf rfl rfl (by decide) (FW_46 S hW) rfl ?_
              refine q_bipush rfl rfl ?_
              refine q_iload_n rfl rfl rfl ?_
              refine q_imul rfl rfl (q_tn (z := 120) rfl ?_)
              refine q_iload_n rfl rfl rfl ?_
              refine q_iadd rfl rfl (q_tn (z := 154) rfl ?_)
              refine q_lconst rfl rfl ?_
              refine q_last rfl rfl (by decide) rfl (by decide) ?_
              refine q_icc2 (z := 35) rfl rfl rfl rfl rfl ?_
              refine q_goto rfl ?_
              refine q_iload_n rfl rfl rfl ?_
              refine q_bipush rfl rfl ?_
              refine q_icge rfl rfl (fun c204 => absurd c204 (by decide)) (fun c204 => ?_)
              refine q_aload_n rfl rfl rfl ?_
              refine q_getf rfl rfl (by decide) (FW_46 S hW) rfl ?_
              refine q_bipush rfl rfl ?_
              refine q_iload_n rfl rfl rfl ?_
              refine q_imul rfl rfl (q_tn (z := 120) rfl ?_)
              refine q_iload_n rfl rfl rfl ?_
              refine q_iadd rfl rfl (q_tn (z := 155) rfl ?_)
              refine q_lconst rfl rfl ?_
              refine q_last rfl rfl (by decide) rfl (by decide) ?_
              refine q_icc2 (z := 36) rfl rfl rfl rfl rfl ?_
              refine q_goto rfl ?_
              refine q_iload_n rfl rfl rfl ?_
              refine q_bipush rfl rfl ?_
              refine q_icge rfl rfl (fun c205 => absurd c205 (by decide)) (fun c205 => ?_)
              refine q_aload_n rfl rfl rfl ?_
              refine q_getf rfl rfl (by decide) (FW_46 S hW) rfl ?_
              refine q_bipush rfl rfl ?_
              refine q_iload_n rfl rfl rfl ?_
              refine q_imul rfl rfl (q_tn (z := 120) rfl ?_)
              refine q_iload_n rfl rfl rfl ?_
              refine q_iadd rfl rfl (q_tn (z := 156) rfl ?_)
              refine q_lconst rfl rfl ?_
              refine q_last rfl rfl (by decide) rfl (by decide) ?_
              refine q_icc2 (z := 37) rfl rfl rfl rfl rfl ?_
              refine q_goto rfl ?_
              refine q_iload_n rfl rfl rfl ?_
              refine q_bipush rfl rfl ?_
              refine q_icge rfl rfl (fun c206 => absurd c206 (by decide)) (fun c206 => ?_)
              refine q_aload_n rfl rfl rfl ?_
              refine q_getf rfl rfl (by decide) (FW_46 S hW) rfl ?_
              refine q_bipush rfl rfl ?_
              refine q_iload_n rfl rfl rfl ?_
              refine q_imul rfl rfl (q_tn (z := 120) rfl ?_)
              refine q_iload_n rfl rfl rfl ?_
              refine q_iadd rfl rfl (q_tn (z := 157) rfl ?_)
              refine q_lconst rfl rfl ?_
              refine q_last rfl rfl (by decide) rfl (by decide) ?_
              refine q_icc2 (z := 38) rfl rfl rfl rfl rfl ?_
              refine q_goto rfl ?_
              refine q_iload_n rfl rfl rfl ?_
              refine q_bipush rfl rfl ?_
              refine q_icge rfl rfl (fun c207 => absurd c207 (by decide)) (fun c207 => ?_)
              refine q_aload_n rfl rfl rfl ?_
              refine q_getf rfl rfl (by decide) (FW_46 S hW) rfl ?_
              refine q_bipush rfl rfl ?_
              refine q_iload_n rfl rfl rfl ?_
              refine q_imul rfl rfl (q_tn (z := 120) rfl ?_)
              refine q_iload_n rfl rfl rfl ?_
              refine q_iadd rfl rfl (q_tn (z := 158) rfl ?_)
              refine q_lconst rfl rfl ?_
              refine q_last rfl rfl (by decide) rfl (by decide) ?_
              refine q_icc2 (z := 39) rfl rfl rfl rfl rfl ?_
              refine q_goto rfl ?_
              refine q_iload_n rfl rfl rfl ?_
              refine q_bipush rfl rfl ?_
              refine q_icge rfl rfl (fun c208 => absurd c208 (by decide)) (fun c208 => ?_)
              refine q_aload_n rfl rfl rfl ?_
              refine q_getf rfl rfl (by decide) (FW_46 S hW) rfl ?_
              refine q_bipush rfl rfl ?_
              refine q_iload_n rfl rfl rfl ?_
              refine q_imul rfl rfl (q_tn (z := 120) rfl ?_)
              refine q_iload_n rfl rfl rfl ?_
              refine q_iadd rfl rfl (q_tn (z := 159) rfl ?_)
              refine q_lconst rfl rfl ?_
              refine q_last rfl rfl (by decide) rfl (by decide) ?_
              refine q_icc2 (z := 40) rfl rfl rfl rfl rfl ?_
              refine q_goto rfl ?_
              refine q_iload_n rfl rfl rfl ?_
              refine q_bipush rfl rfl ?_
              refine q_icge rfl rfl (fun c209 => absurd c209 (by decide)) (fun c209 => ?_)
              refine q_aload_n rfl rfl rfl ?_
              refine q_getf rfl rfl (by decide) (FW_46 S hW) rfl ?_
              refine q_bipush rfl rfl ?_
              refine q_iload_n rfl rfl rfl ?_
              refine q_imul rfl rfl (q_tn (z := 120) rfl ?_)
              refine q_iload_n rfl rfl rfl ?_
              refine q_iadd rfl rfl (q_tn (z := 160) rfl ?_)
              refine q_lconst rfl rfl ?_
              refine q_last rfl rfl (by decide) rfl (by decide) ?_
              refine q_icc2 (z := 41) rfl rfl rfl rfl rfl ?_
              refine q_goto rfl ?_
              refine q_iload_n rfl rfl rfl ?_
              refine q_bipush rfl rfl ?_
              refine q_icge rfl rfl (fun c210 => absurd c210 (by decide)) (fun c210 => ?_)
              refine q_aload_n rfl rfl rfl ?_
              refine q_getf rfl rfl (by decide) (FW_46 S hW) rfl ?_
              refine q_bipush rfl rfl ?_
              refine q_iload_n rfl rfl rfl ?_
              refine q_imul rfl rfl (q_tn (z := 120) rfl ?_)
              refine q_iload_n rfl rfl rfl ?_
              refine q_iadd rfl rfl (q_tn (z := 161) rfl ?_)
              refine q_lconst rfl rfl ?_
              refine q_last rfl rfl (by decide) rfl (by decide) ?_
              refine q_icc2 (z := 42) rfl rfl rfl rfl rfl ?_
              refine q_goto rfl ?_
              refine q_iload_n rfl rfl rfl ?_
              refine q_bipush rfl rfl ?_
              refine q_icge rfl rfl (fun c211 => absurd c211 (by decide)) (fun c211 => ?_)
              refine q_aload_n rfl rfl rfl ?_
              refine q_getf rfl rfl (by decide) (FW_46 S hW) rfl ?_
              refine q_bipush rfl rfl ?_
              refine q_iload_n rfl rfl rfl ?_
              refine q_imul rfl rfl (q_tn (z := 120) rfl ?_)
              refine q_iload_n rfl rfl rfl ?_
              refine q_iadd rfl rfl (q_tn (z := 162) rfl ?_)
              refine q_lconst rfl rfl ?_
              refine q_last rfl rfl (by decide) rfl (by decide) ?_
              refine q_icc2 (z := 43) rfl rfl rfl rfl rfl ?_
              refine q_goto rfl ?_
              refine q_iload_n rfl rfl rfl ?_
              refine q_bipush rfl rfl ?_
              refine q_icge rfl rfl (fun c212 => absurd c212 (by decide)) (fun c212 => ?_)
              refine q_aload_n rfl rfl rfl ?_
              refine q_getf rfl rfl (by decide) (FW_46 S hW) rfl ?_
              refine q_bipush rfl rfl ?_
              refine q_iload_n rfl rfl rfl ?_
              refine q_imul rfl rfl (q_tn (z := 120) rfl ?_)
              refine q_iload_n rfl rfl rfl ?_
              refine q_iadd rfl rfl (q_tn (z := 163) rfl ?_)
              refine q_lconst rfl rfl ?_
              refine q_last rfl rfl (by decide) rfl (by decide) ?_
              refine q_icc2 (z := 44) rfl rfl rfl rfl rfl ?_
              refine q_goto rfl ?_
              refine q_iload_n rfl rfl rfl ?_
              refine q_bipush rfl rfl ?_
              refine q_icge rfl rfl (fun c213 => absurd c213 (by decide)) (fun c213 => ?_)
              refine q_aload_n rfl rfl rfl ?_
              refine q_getf rfl rfl (by decide) (FW_46 S hW) rfl ?_
              refine q_bipush rfl rfl ?_
              refine q_iload_n rfl rfl rfl ?_
              refine q_imul rfl rfl (q_tn (z := 120) rfl ?_)
              refine q_iload_n rfl rfl rfl ?_
              refine q_iadd rfl rfl (q_tn (z := 164) rfl ?_)
              refine q_lconst rfl rfl ?_
              refine q_last rfl rfl (by decide) rfl (by decide) ?_
              refine q_icc2 (z := 45) rfl rfl rfl rfl rfl ?_
              refine q_goto rfl ?_
              refine q_iload_n rfl rfl rfl ?_
              refine q_bipush rfl rfl ?_
              refine q_icge rfl rfl (fun c214 => absurd c214 (by decide)) (fun c214 => ?_)
              refine q_aload_n rfl rfl rfl ?_
              refine q_getf rfl rfl (by decide) (FW_46 S hW) rfl ?_
              refine q_bipush rfl rfl ?_
              refine q_iload_n rfl rfl rfl ?_
              refine q_imul rfl rfl (q_tn (z := 120) rfl ?_)
              refine q_iload_n rfl rfl rfl ?_
              refine q_iadd rfl rfl (q_tn (z := 165) rfl ?_)
              refine q_lconst rfl rfl ?_
              refine q_last rfl rfl (by decide) rfl (by decide) ?_
              refine q_icc2 (z := 46) rfl rfl rfl rfl rfl ?_
              refine q_goto rfl ?_
              refine q_iload_n rfl rfl rfl ?_
              refine q_bipush rfl rfl ?_
              refine q_icge rfl rfl (fun c215 => absurd c215 (by decide)) (fun c215 => ?_)
              refine q_aload_n rfl rfl rfl ?_
              refine q_getf rfl rfl (by decide) (FW_46 S hW) rfl ?_
              refine q_bipush rfl rfl ?_
              refine q_iload_n rfl rfl rfl ?_
              refine q_imul rfl rfl (q_tn (z := 120) rfl ?_)
              refine q_iload_n rfl rfl rfl ?_
              refine q_iadd rfl rfl (q_tn (z := 166) rfl ?_)
              refine q_lconst rfl rfl ?_
              refine q_last rfl rfl (by decide) rfl (by decide) ?_
              refine q_icc2 (z := 47) rfl rfl rfl rfl rfl ?_
              refine q_goto rfl ?_
              refine q_iload_n rfl rfl rfl ?_
              refine q_bipush rfl rfl ?_
              refine q_icge rfl rfl (fun c216 => absurd c216 (by decide)) (fun c216 => ?_)
              refine q_aload_n rfl rfl rfl ?_
              refine q_getf rfl rfl (by decide) (FW_46 S hW) rfl ?_
              refine q_bipush rfl rfl ?_
              refine q_iload_n rfl rfl rfl ?_
              refine q_imul rfl rfl (q_tn (z := 120) rfl ?_)
              refine q_iload_n rfl rfl rfl ?_
              refine q_iadd rfl rfl (q_tn (z := 167) rfl ?_)
              refine q_lconst rfl rfl ?_
              refine q_last rfl rfl (by decide) rfl (by decide) ?_
              refine q_icc2 (z := 48) rfl rfl rfl rfl rfl ?_
              refine q_goto rfl ?_
              refine q_iload_n rfl rfl rfl ?_
              refine q_bipush rfl rfl ?_
              refine q_icge rfl rfl (fun c217 => absurd c217 (by decide)) (fun c217 => ?_)
              refine q_aload_n rfl rfl rfl ?_
              refine q_getf rfl rfl (by decide) (FW_46 S hW) rfl ?_
              refine q_bipush rfl rfl ?_
              refine q_iload_n rfl rfl rfl ?_
              refine q_imul rfl rfl (q_tn (z := 120) rfl ?_)
              refine q_iload_n rfl rfl rfl ?_
              refine q_iadd rfl rfl (q_tn (z := 168) rfl ?_)
              refine q_lconst rfl rfl ?_
              refine q_last rfl rfl (by decide) rfl (by decide) ?_
              refine q_icc2 (z := 49) rfl rfl rfl rfl rfl ?_
              refine q_goto rfl ?_
              refine q_iload_n rfl rfl rfl ?_
              refine q_bipush rfl rfl ?_
              refine q_icge rfl rfl (fun c218 => absurd c218 (by decide)) (fun c218 => ?_)
              refine q_aload_n rfl rfl rfl ?_
              refine q_getf rfl rfl (by decide) (FW_46 S hW) rfl ?_
              refine q_bipush rfl rfl ?_
              refine q_iload_n rfl rfl rfl ?_
              refine q_imul rfl rfl (q_tn (z := 120) rfl ?_)
              refine q_iload_n rfl rfl rfl ?_
              refine q_iadd rfl rfl (q_tn (z := 169) rfl ?_)
              refine q_lconst rfl rfl ?_
              refine q_last rfl rfl (by decide) rfl (by decide) ?_
              refine q_icc2 (z := 50) rfl rfl rfl rfl rfl ?_
              refine q_goto rfl ?_
              refine q_iload_n rfl rfl rfl ?_
              refine q_bipush rfl rfl ?_
              refine q_icge rfl rfl (fun c219 => absurd c219 (by decide)) (fun c219 => ?_)
              refine q_aload_n rfl rfl rfl ?_
              refine q_getf rfl rfl (by decide) (FW_46 S hW) rfl ?_
              refine q_bipush rfl rfl ?_
              refine q_iload_n rfl rfl rfl ?_
              refine q_imul rfl rfl (q_tn (z := 120) rfl ?_)
              refine q_iload_n rfl rfl rfl ?_
              refine q_iadd rfl rfl (q_tn (z := 170) rfl ?_)
              refine q_lconst rfl rfl ?_
              refine q_last rfl rfl (by decide) rfl (by decide) ?_
              refine q_icc2 (z := 51) rfl rfl rfl rfl rfl ?_
              refine q_goto rfl ?_
              refine q_iload_n rfl rfl rfl ?_
              refine q_bipush rfl rfl ?_
              refine q_icge rfl rfl (fun c220 => absurd c220 (by decide)) (fun c220 => ?_)
              refine q_aload_n rfl rfl rfl ?_
              refine q_getf rfl rfl (by decide) (FW_46 S hW) rfl ?_
              refine q_bipush rfl rfl ?_
              refine q_iload_n rfl rfl rfl ?_
              refine q_imul rfl rfl (q_tn (z := 120) rfl ?_)
              refine q_iload_n rfl rfl rfl ?_
              refine q_iadd rfl rfl (q_tn (z := 171) rfl ?_)
              refine q_lconst rfl rfl ?_
              refine q_last rfl rfl (by decide) rfl (by decide) ?_
              refine q_icc2 (z := 52) rfl rfl rfl rfl rfl ?_
              refine q_goto rfl ?_
              refine q_iload_n rfl rfl rfl ?_
              refine q_bipush rfl rfl ?_
              refine q_icge rfl rfl (fun c221 => absurd c221 (by decide)) (fun c221 => ?_)
              refine q_aload_n rfl rfl rfl ?_
              refine q_getf rfl rfl (by decide) (FW_46 S hW) rfl ?_
              refine q_bipush rfl rfl ?_
              refine q_iload_n rfl rfl rfl ?_
              refine q_imul rfl rfl (q_tn (z := 120) rfl ?_)
              refine q_iload_n rfl rfl rfl ?_
              refine q_iadd rfl rfl (q_tn (z := 172) rfl ?_)
              refine q_lconst rfl rfl ?_
              refine q_last rfl rfl (by decide) rfl (by decide) ?_
              refine q_icc2 (z := 53) rfl rfl rfl rfl rfl ?_
              refine q_goto rfl ?_
              refine q_iload_n rfl rfl rfl ?_
              refine q_bipush rfl rfl ?_
              refine q_icge rfl rfl (fun c222 => absurd c222 (by decide)) (fun c222 => ?_)
              refine q_aload_n rfl rfl rfl ?_
              refine q_getf rfl rfl (by decide) (FW_46 S hW) rfl ?_
              refine q_bipush rfl rfl ?_
              refine q_iload_n rfl rfl rfl ?_
              refine q_imul rfl rfl (q_tn (z := 120) rfl ?_)
              refine q_iload_n rfl rfl rfl ?_
              refine q_iadd rfl rfl (q_tn (z := 173) rfl ?_)
              refine q_lconst rfl rfl ?_
              refine q_last rfl rfl (by decide) rfl (by decide) ?_
              refine q_icc2 (z := 54) rfl rfl rfl rfl rfl ?_
              refine q_goto rfl ?_
              refine q_iload_n rfl rfl rfl ?_
              refine q_bipush rfl rfl ?_
              refine q_icge rfl rfl (fun c223 => absurd c223 (by decide)) (fun c223 => ?_)
              refine q_aload_n rfl rfl rfl ?_
              refine q_getf rfl rfl (by decide) (FW_46 S hW) rfl ?_
              refine q_bipush rfl rfl ?_
              refine q_iload_n rfl rfl rfl ?_
              refine q_imul rfl rfl (q_tn (z := 120) rfl ?_)
              refine q_iload_n rfl rfl rfl ?_
              refine q_iadd rfl rfl (q_tn (z := 174) rfl ?_)
              refine q_lconst rfl rfl ?_
              refine q_last rfl rfl (by decide) rfl (by decide) ?_
              refine q_icc2 (z := 55) rfl rfl rfl rfl rfl ?_
              refine q_goto rfl ?_
              refine q_iload_n rfl rfl rfl ?_
              refine q_bipush rfl rfl ?_
              refine q_icge rfl rfl (fun c224 => absurd c224 (by decide)) (fun c224 => ?_)
              refine q_aload_n rfl rfl rfl ?_
              refine q_getf rfl rfl (by decide) (FW_46 S hW) rfl ?_
              refine q_bipush rfl rfl ?_
              refine q_iload_n rfl rfl rfl ?_
              refine q_imul rfl rfl (q_tn (z := 120) rfl ?_)
              refine q_iload_n rfl rfl rfl ?_
              refine q_iadd rfl rfl (q_tn (z := 175) rfl ?_)
              refine q_lconst rfl rfl ?_
              refine q_last rfl rfl (by decide) rfl (by decide) ?_
              refine q_icc2 (z := 56) rfl rfl rfl rfl rfl ?_
              refine q_goto rfl ?_
              refine q_iload_n rfl rfl rfl ?_
              refine q_bipush rfl rfl ?_
              refine q_icge rfl rfl (fun c225 => absurd c225 (by decide)) (fun c225 => ?_)
              refine q_aload_n rfl rfl rfl ?_
              refine q_getf rfl rfl (by decide) (FW_46 S hW) rfl ?_
              refine q_bipush rfl rfl ?_
              refine q_iload_n rfl rfl rfl ?_
              refine q_imul rfl rfl (q_tn (z := 120) rfl ?_)
              refine q_iload_n rfl rfl rfl ?_
              refine q_iadd rfl rfl (q_tn (z := 176) rfl ?_)
              refine q_lconst rfl rfl ?_
              refine q_last rfl rfl (by decide) rfl (by decide) ?_
              refine q_icc2 (z := 57) rfl rfl rfl rfl rfl ?_
              refine q_goto rfl ?_
              refine q_iload_n rfl rfl rfl ?_
              refine q_bipush rfl rfl ?_
              refine q_icge rfl rfl (fun c226 => absurd c226 (by decide)) (fun c226 => ?_)
              refine q_aload_n rfl rfl rfl ?_
              refine q_getf rfl rfl (by decide) (FW_46 S hW) rfl ?_
              refine q_bipush rfl rfl ?_
              refine q_iload_n rfl rfl rfl ?_
              refine q_imul rfl rfl (q_tn (z := 120) rfl ?_)
              refine q_iload_n rfl rfl rfl ?_
              refine q_iadd rfl rfl (q_tn (z := 177) rfl ?_)
              refine q_lconst rfl rfl ?_
              refine q_last rfl rfl (by decide) rfl (by decide) ?_
              refine q_icc2 (z := 58) rfl rfl rfl rfl rfl ?_
              refine q_goto rfl ?_
              refine q_iload_n rfl rfl rfl ?_
              refine q_bipush rfl rfl ?_
              refine q_icge rfl rfl (fun c227 => absurd c227 (by decide)) (fun c227 => ?_)
              refine q_aload_n rfl rfl rfl ?_
              refine q_getf rfl rfl (by decide) (FW_46 S hW) rfl ?_
              refine q_bipush rfl rfl ?_
              refine q_iload_n rfl rfl rfl ?_
              refine q_imul rfl rfl (q_tn (z := 120) rfl ?_)
              refine q_iload_n rfl rfl rfl ?_
              refine q_iadd rfl rfl (q_tn (z := 178) rfl ?_)
              refine q_lconst rfl rfl ?_
              refine q_last rfl rfl (by decide) rfl (by decide) ?_
              refine q_icc2 (z := 59) rfl rfl rfl rfl rfl ?_
              refine q_goto rfl ?_
              refine q_iload_n rfl rfl rfl ?_
              refine q_bipush rfl rfl ?_
              refine q_icge rfl rfl (fun c228 => absurd c228 (by decide)) (fun c228 => ?_)
              refine q_aload_n rfl rfl rfl ?_
              refine q_getf rfl rfl (by decide) (FW_46 S hW) rfl ?_
              refine q_bipush rfl rfl ?_
              refine q_iload_n rfl rfl rfl ?_
              refine q_imul rfl rfl (q_tn (z := 120) rfl ?_)
              refine q_iload_n rfl rfl rfl ?_
              refine q_iadd rfl rfl (q_tn (z := 179) rfl ?_)
              refine q_lconst rfl rfl ?_
              refine q_last rfl rfl (by decide) rfl (by decide) ?_
              refine q_icc2 (z := 60) rfl rfl rfl rfl rfl ?_
              refine q_goto rfl ?_
              refine q_iload_n rfl rfl rfl ?_
              refine q_bipush rfl rfl ?_
              refine q_icge rfl rfl (fun c229 => ?_) (fun c229 => absurd (by decide) c229)
              refine q_ret rfl rfl ?_
              refine ⟨rfl, ?_⟩
              refine q_iconst rfl rfl ?_
              refine q_iret rfl rfl trivial ?_
              refine ⟨_, rfl, ?_⟩
              refine q_iceq rfl rfl (fun c230 => ?_) (fun c230 => absurd (by decide) c230)
              refine q_icc4 (z := 6) rfl rfl rfl rfl rfl ?_
              refine q_goto rfl ?_
              refine q_iload rfl rfl rfl ?_
              refine q_aload_nF rfl rfl rfl ?_
              refine q_alenX (x := 6) rfl rfl rfl ?_
              refine q_bipush rfl rfl ?_
              refine q_isub rfl rfl (q_tn (z := 0) rfl ?_)
              refine q_icgt rfl rfl (fun c231 => ?_) (fun c231 => absurd (by decide) c231)
              refine q_iconst rfl rfl ?_
              refine q_iret rfl rfl rfl ?_
              exact hK _ _
            · refine q_aast rfl rfl (by decide) (by decide) (FW_43 S hW) rfl rfl (by decide) ?_
              refine q_iconst rfl rfl ?_
              refine q_iret rfl rfl trivial ?_
              refine ⟨_, rfl, ?_⟩
              refine q_aload_n rfl rfl rfl ?_
              refine q_aload_nF rfl rfl rfl ?_
              refine q_iload rfl rfl rfl ?_
              refine q_iconst rfl rfl ?_
              refine q_iadd rfl rfl (q_tn (z := 1) rfl ?_)
              refine q_ialdX (x := 3) rfl rfl rfl hx1 ?_
              refine q_aload_nF rfl rfl rfl ?_
              refine q_iload rfl rfl rfl ?_
              refine q_iconst rfl rfl ?_
              refine q_iadd rfl rfl (q_tn (z := 2) rfl ?_)
              refine q_ialdX (x := 3) rfl rfl rfl hx2 ?_
              refine q_aload_nF rfl rfl rfl ?_
              refine q_iload rfl rfl rfl ?_
              refine q_iconst rfl rfl ?_
              refine q_iadd rfl rfl (q_tn (z := 3) rfl ?_)
              refine q_ialdX (x := x3) rfl rfl rfl hx3 ?_
              refine q_nV3 rfl rfl (Or.inl rfl) rfl rfl rfl (by decide) (FW_46 S hW) ⟨rfl, rfl⟩ rfl ?_
              change PQ _ _ _ mm_X12_make 0 [.ref 46, .int 3, .int 3, .int x3] [] _ _ 0 0 _
              refine q_aload_n rfl rfl rfl ?_
              refine q_iload_n rfl rfl rfl ?_
              refine q_nV1 rfl rfl (Or.inl rfl) rfl rfl rfl (by decide) (FW_46 S hW) ⟨rfl, rfl⟩ rfl ?_
              change PQ _ _ _ mm_X12_isShelf 0 [.ref 46, .int 3] [] _ _ 0 0 _
              refine q_aload_n rfl rfl rfl ?_
              refine q_iload_n rfl rfl rfl ?_
              refine q_iconst rfl rfl ?_
              refine q_bipush rfl rfl ?_
              refine q_nV3 rfl rfl (Or.inl rfl) rfl rfl rfl (by decide) (FW_46 S hW) ⟨rfl, rfl⟩ rfl ?_
              change PQ _ _ _ mm_X12_in 0 [.ref 46, .int 3, .int 0, .int 7] [] _ _ 0 0 _
              refine q_iload_n rfl rfl rfl ?_
              refine q_iload_n rfl rfl rfl ?_
              refine q_iclt rfl rfl (fun c232 => absurd c232 (by decide)) (fun c232 => ?_)
              refine q_iload_n rfl rfl rfl ?_
              refine q_iload_n rfl rfl rfl ?_
              refine q_icgt rfl rfl (fun c233 => absurd c233 (by decide)) (fun c233 => ?_)
              refine q_iconst rfl rfl ?_
              refine q_goto rfl ?_
              refine q_iret rfl rfl rfl ?_
              refine ⟨_, rfl, ?_⟩
              refine q_iret rfl rfl rfl ?_
              refine ⟨_, rfl, ?_⟩
              refine q_ifeq rfl rfl (fun c234 => absurd c234 (by decide)) (fun c234 => ?_)
              refine q_aload_n rfl rfl rfl ?_
              refine q_iload_n rfl rfl rfl ?_
              refine q_iconst rfl rfl ?_
              refine q_iconst rfl rfl ?_
              refine q_nV3 rfl rfl (Or.inl rfl) rfl rfl rfl (by decide) (FW_46 S hW) ⟨rfl, rfl⟩ rfl ?_
              change PQ _ _ _ mm_X12_in 0 [.ref 46, .int 3, .int 3, .int 4] [] _ _ 0 0 _
              refine q_iload_n rfl rfl rfl ?_
              refine q_iload_n rfl rfl rfl ?_
              refine q_iclt rfl rfl (fun c235 => absurd c235 (by decide)) (fun c235 => ?_)
              refine q_iload_n rfl rfl rfl ?_
              refine q_iload_n rfl rfl rfl ?_
              refine q_icgt rfl rfl (fun c236 => absurd c236 (by decide)) (fun c236 => ?_)
              refine q_iconst rfl rfl ?_
              refine q_goto rfl ?_
              refine q_iret rfl rfl rfl ?_
              refine ⟨_, rfl, ?_⟩
              refine q_ifeq rfl rfl (fun c237 => absurd c237 (by decide)) (fun c237 => ?_)
              refine q_iload_n rfl rfl rfl ?_
              refine q_bipush rfl rfl ?_
              refine q_icle rfl rfl (fun c238 => ?_) (fun c238 => absurd (i_le_t c16 rfl) c238)
              refine q_iload_n rfl rfl rfl ?_
              refine q_ifge rfl rfl (fun c239 => ?_) (fun c239 => absurd (i_ge_t c17 rfl) c239)
              refine q_aload_n rfl rfl rfl ?_
              refine q_getf rfl rfl (by decide) (FW_46 S hW) rfl ?_
              refine q_iload_n rfl rfl rfl ?_
              refine q_iload_n rfl rfl rfl ?_
              refine q_iast rfl rfl (by decide) (FW_75 S hW) (by decide) ?_
              refine q_aload_n rfl rfl rfl ?_
              refine q_getf rfl rfl (by decide) (FW_46 S hW) rfl ?_
              refine q_iload_n rfl rfl rfl ?_
              refine q_iload_n rfl rfl rfl ?_
              refine q_iast rfl rfl (by decide) (FW_78 S hW) (by decide) ?_
              refine q_aload_n rfl rfl rfl ?_
              refine q_iload_n rfl rfl rfl ?_
              refine q_nV1v rfl rfl (Or.inl rfl) rfl rfl rfl (by decide) (FW_46 S hW) ⟨rfl, rfl⟩ rfl ?_
              change PQ _ _ _ mm_X12_clear 0 [.ref 46, .int 3, pm_un] [] _ _ 0 0 _
              refine q_iconst rfl rfl ?_
              refine q_ist2n rfl rfl rfl rfl ?_
              refine q_iload_n rfl rfl rfl ?_
              refine q_bipush rfl rfl ?_
              refine q_icge rfl rfl (fun c240 => absurd c240 (by decide)) (fun c240 => ?_)
              refine q_aload_n rfl rfl rfl ?_
              refine q_getf rfl rfl (by decide) (FW_46 S hW) rfl ?_
              refine q_bipush rfl rfl ?_
              refine q_iload_n rfl rfl rfl ?_
              refine q_imul rfl rfl (q_tn (z := 180) rfl ?_)
              refine q_iload_n rfl rfl rfl ?_
              refine q_iadd rfl rfl (q_tn (z := 180) rfl ?_)
              refine q_lconst rfl rfl ?_
              refine q_last rfl rfl (by decide) (FW_79 S hW) (by decide) ?_
              refine q_icc2 (z := 1) rfl rfl rfl rfl rfl ?_
              refine q_goto rfl ?_
              refine q_iload_n rfl rfl rfl ?_
              refine q_bipush rfl rfl ?_
              refine q_icge rfl rfl (fun c241 => absurd c241 (by decide)) (fun c241 => ?_)
              refine q_aload_n rfl rfl rfl ?_
              refine q_getf rfl rfl (by decide) (FW_46 S hW) rfl ?_
              refine q_bipush rfl rfl ?_
              refine q_iload_n rfl rfl rfl ?_
              refine q_imul rfl rfl (q_tn (z := 180) rfl ?_)
              refine q_iload_n rfl rfl rfl ?_
              refine q_iadd rfl rfl (q_tn (z := 181) rfl ?_)
              refine q_lconst rfl rfl ?_
              refine q_last rfl rfl (by decide) rfl (by decide) ?_
              refine q_icc2 (z := 2) rfl rfl rfl rfl rfl ?_
              refine q_goto rfl ?_
              refine q_iload_n rfl rfl rfl ?_
              refine q_bipush rfl rfl ?_
              refine q_icge rfl rfl (fun c242 => absurd c242 (by decide)) (fun c242 => ?_)
              refine q_aload_n rfl rfl rfl ?_
              refine q_getf rfl rfl (by decide) (FW_46 S hW) rfl ?_
              refine q_bipush rfl rfl ?_
              refine q_iload_n rfl rfl rfl ?_
              refine q_imul rfl rfl (q_tn (z := 180) rfl ?_)
              refine q_iload_n rfl rfl rfl ?_
              refine q_iadd rfl rfl (q_tn (z := 182) rfl ?_)
              refine q_lconst rfl rfl ?_
              refine q_last rfl rfl (by decide) rfl (by decide) ?_
              refine q_icc2 (z := 3) rfl rfl rfl rfl rfl ?_
              refine q_goto rfl ?_
              refine q_iload_n rfl rfl rfl ?_
              refine q_bipush rfl rfl ?_
              refine q_icge rfl rfl (fun c243 => absurd c243 (by decide)) (fun c243 => ?_)
              refine q_aload_n rfl rfl rfl ?_
              refine q_getf rfl rfl (by decide) (FW_46 S hW) rfl ?_
              refine q_bipush rfl rfl ?_
              refine q_iload_n rfl rfl rfl ?_
              refine q_imul rfl rfl (q_tn (z := 180) rfl ?_)
              refine q_iload_n rfl rfl rfl ?_
              refine q_iadd rfl rfl (q_tn (z := 183) rfl ?_)
              refine q_lconst rfl rfl ?_
              refine q_last rfl rfl (by decide) rfl (by decide) ?_
              refine q_icc2 (z := 4) rfl rfl rfl rfl rfl ?_
              refine q_goto rfl ?_
              refine q_iload_n rfl rfl rfl ?_
              refine q_bipush rfl rfl ?_
              refine q_icge rfl rfl (fun c244 => absurd c244 (by decide)) (fun c244 => ?_)
              refine q_aload_n rfl rfl rfl ?_
              refine q_getf rfl rfl (by decide) (FW_46 S hW) rfl ?_
              refine q_bipush rfl rfl ?_
              refine q_iload_n rfl rfl rfl ?_
              refine q_imul rfl rfl (q_tn (z := 180) rfl ?_)
              refine q_iload_n rfl rfl rfl ?_
              refine q_iadd rfl rfl (q_tn (z := 184) rfl ?_)
              refine q_lconst rfl rfl ?_
              refine q_last rfl rfl (by decide) rfl (by decide) ?_
              refine q_icc2 (z := 5) rfl rfl rfl rfl rfl ?_
              refine q_goto rfl ?_
              refine q_iload_n rfl rfl rfl ?_
              refine q_bipush rfl rfl ?_
              refine q_icge rfl rfl (fun c245 => absurd c245 (by decide)) (fun c245 => ?_)
              refine q_aload_n rfl rfl rfl ?_
              refine q_getf rfl rfl (by decide) (FW_46 S hW) rfl ?_
              refine q_bipush rfl rfl ?_
              refine q_iload_n rfl rfl rfl ?_
              refine q_imul rfl rfl (q_tn (z := 180) rfl ?_)
              refine q_iload_n rfl rfl rfl ?_
              refine q_iadd rfl rfl (q_tn (z := 185) rfl ?_)
              refine q_lconst rfl rfl ?_
              refine q_last rfl rfl (by decide) rfl (by decide) ?_
              refine q_icc2 (z := 6) rfl rfl rfl rfl rfl ?_
              refine q_goto rfl ?_
              refine q_iload_n rfl rfl rfl ?_
              refine q_bipush rfl rfl ?_
              refine q_icge rfl rfl (fun c246 => absurd c246 (by decide)) (fun c246 => ?_)
              refine q_aload_n rfl rfl rfl ?_
              refine q_getf rfl rfl (by decide) (FW_46 S hW) rfl ?_
              refine q_bipush rfl rfl ?_
              refine q_iload_n rfl rfl rfl ?_
              refine q_imul rfl rfl (q_tn (z := 180) rfl ?_)
              refine q_iload_n rfl rfl rfl ?_
              refine q_iadd rfl rfl (q_tn (z := 186) rfl ?_)
              refine q_lconst rfl rfl ?_
              refine q_last rfl rfl (by decide) rfl (by decide) ?_
              refine q_icc2 (z := 7) rfl rfl rfl rfl rfl ?_
              refine q_goto rfl ?_
              refine q_iload_n rfl rfl rfl ?_
              refine q_bipush rfl rfl ?_
              refine q_icge rfl rfl (fun c247 => absurd c247 (by decide)) (fun c247 => ?_)
              refine q_aload_n rfl rfl rfl ?_
              refine q_getf rfl rfl (by decide) (FW_46 S hW) rfl ?_
              refine q_bipush rfl rfl ?_
              refine q_iload_n rfl rfl rfl ?_
              refine q_imul rfl rfl (q_tn (z := 180) rfl ?_)
              refine q_iload_n rfl rfl rfl ?_
              refine q_iadd rfl rfl (q_tn (z := 187) rfl ?_)
              refine q_lconst rfl rfl ?_
              refine q_last rfl rfl (by decide) rfl (by decide) ?_
              refine q_icc2 (z := 8) rfl rfl rfl rfl rfl ?_
              refine q_goto rfl ?_
              refine q_iload_n rfl rfl rfl ?_
              refine q_bipush rfl rfl ?_
              refine q_icge rfl rfl (fun c248 => absurd c248 (by decide)) (fun c248 => ?_)
              refine q_aload_n rfl rfl rfl ?_
              refine q_getf rfl rfl (by decide) (FW_46 S hW) rfl ?_
              refine q_bipush rfl rfl ?_
              refine q_iload_n rfl rfl rfl ?_
              refine q_imul rfl rfl (q_tn (z := 180) rfl ?_)
              refine q_iload_n rfl rfl rfl ?_
              refine q_iadd rfl rfl (q_tn (z := 188) rfl ?_)
              refine q_lconst rfl rfl ?_
              refine q_last rfl rfl (by decide) rfl (by decide) ?_
              refine q_icc2 (z := 9) rfl rfl rfl rfl rfl ?_
              refine q_goto rfl ?_
              refine q_iload_n rfl rfl rfl ?_
              refine q_bipush rfl rfl ?_
              refine q_icge rfl rfl (fun c249 => absurd c249 (by decide)) (fun c249 => ?_)
              refine q_aload_n rfl rfl rfl ?_
              refine q_getf rfl rfl (by decide) (FW_46 S hW) rfl ?_
              refine q_bipush rfl rfl ?_
              refine q_iload_n rfl rfl rfl ?_
              refine q_imul rfl rfl (q_tn (z := 180) rfl ?_)
              refine q_iload_n rfl rfl rfl ?_
              refine q_iadd rfl rfl (q_tn (z := 189) rfl ?_)
              refine q_lconst rfl rfl ?_
              refine q_last rfl rfl (by decide) rfl (by decide) ?_
              refine q_icc2 (z := 10) rfl rfl rfl rfl rfl ?_
              refine q_goto rfl ?_
              refine q_iload_n rfl rfl rfl ?_
              refine q_bipush rfl rfl ?_
              refine q_icge rfl rfl (fun c250 => absurd c250 (by decide)) (fun c250 => ?_)
              refine q_aload_n rfl rfl rfl ?_
              refine q_getf rfl rfl (by decide) (FW_46 S hW) rfl ?_
              refine q_bipush rfl rfl ?_
              refine q_iload_n rfl rfl rfl ?_
              refine q_imul rfl rfl (q_tn (z := 180) rfl ?_)
              refine q_iload_n rfl rfl rfl ?_
              refine q_iadd rfl rfl (q_tn (z := 190) rfl ?_)
              refine q_lconst rfl rfl ?_
              refine q_last rfl rfl (by decide) rfl (by decide) ?_
              refine q_icc2 (z := 11) rfl rfl rfl rfl rfl ?_
              refine q_goto rfl ?_
              refine q_iload_n rfl rfl rfl ?_
              refine q_bipush rfl rfl ?_
              refine q_icge rfl rfl (fun c251 => absurd c251 (by decide)) (fun c251 => ?_)
              refine q_aload_n rfl rfl rfl ?_
              refine q_getf rfl rfl (by decide) (FW_46 S hW) rfl ?_
              refine q_bipush rfl rfl ?_
              refine q_iload_n rfl rfl rfl ?_
              refine q_imul rfl rfl (q_tn (z := 180) rfl ?_)
              refine q_iload_n rfl rfl rfl ?_
              refine q_iadd rfl rfl (q_tn (z := 191) rfl ?_)
              refine q_lconst rfl rfl ?_
              refine q_last rfl rfl (by decide) rfl (by decide) ?_
              refine q_icc2 (z := 12) rfl rfl rfl rfl rfl ?_
              refine q_goto rfl ?_
              refine q_iload_n rfl rfl rfl ?_
              refine q_bipush rfl rfl ?_
              refine q_icge rfl rfl (fun c252 => absurd c252 (by decide)) (fun c252 => ?_)
              refine q_aload_n rfl rfl rfl ?_
              refine q_getf rfl rfl (by decide) (FW_46 S hW) rfl ?_
              refine q_bipush rfl rfl ?_
              refine q_iload_n rfl rfl rfl ?_
              refine q_imul rfl rfl (q_tn (z := 180) rfl ?_)
              refine q_iload_n rfl rfl rfl ?_
              refine q_iadd rfl rfl (q_tn (z := 192) rfl ?_)
              refine q_lconst rfl rfl ?_
              refine q_last rfl rfl (by decide) rfl (by decide) ?_
              refine q_icc2 (z := 13) rfl rfl rfl rfl rfl ?_
              refine q_goto rfl ?_
              refine q_iload_n rfl rfl rfl ?_
              refine q_bipush rfl rfl ?_
              refine q_icge rfl rfl (fun c253 => absurd c253 (by decide)) (fun c253 => ?_)
              refine q_aload_n rfl rfl rfl ?_
              refine q_getf rfl rfl (by decide) (FW_46 S hW) rfl ?_
              refine q_bipush rfl rfl ?_
              refine q_iload_n rfl rfl rfl ?_
              refine q_imul rfl rfl (q_tn (z := 180) rfl ?_)
              refine q_iload_n rfl rfl rfl ?_
              refine q_iadd rfl rfl (q_tn (z := 193) rfl ?_)
              refine q_lconst rfl rfl ?_
              refine q_last rfl rfl (by decide) rfl (by decide) ?_
              refine q_icc2 (z := 14) rfl rfl rfl rfl rfl ?_
              refine q_goto rfl ?_
              refine q_iload_n rfl rfl rfl ?_
              refine q_bipush rfl rfl ?_
              refine q_icge rfl rfl (fun c254 => absurd c254 (by decide)) (fun c254 => ?_)
              refine q_aload_n rfl rfl rfl ?_
              refine q_getf rfl rfl (by decide) (FW_46 S hW) rfl ?_
              refine q_bipush rfl rfl ?_
              refine q_iload_n rfl rfl rfl ?_
              refine q_imul rfl rfl (q_tn (z := 180) rfl ?_)
              refine q_iload_n rfl rfl rfl ?_
              refine q_iadd rfl rfl (q_tn (z := 194) rfl ?_)
              refine q_lconst rfl rfl ?_
              refine q_last rfl rfl (by decide) rfl (by decide) ?_
              refine q_icc2 (z := 15) rfl rfl rfl rfl rfl ?_
              refine q_goto rfl ?_
              refine q_iload_n rfl rfl rfl ?_
              refine q_bipush rfl rfl ?_
              refine q_icge rfl rfl (fun c255 => absurd c255 (by decide)) (fun c255 => ?_)
              refine q_aload_n rfl rfl rfl ?_
              refine q_getf rfl rfl (by decide) (FW_46 S hW) rfl ?_
              refine q_bipush rfl rfl ?_
              refine q_iload_n rfl rfl rfl ?_
              refine q_imul rfl rfl (q_tn (z := 180) rfl ?_)
              refine q_iload_n rfl rfl rfl ?_
              refine q_iadd rfl rfl (q_tn (z := 195) rfl ?_)
              refine q_lconst rfl rfl ?_
              refine q_last rfl rfl (by decide) rfl (by decide) ?_
              refine q_icc2 (z := 16) rfl rfl rfl rfl rfl ?_
              refine q_goto rfl ?_
              refine q_iload_n rfl rfl rfl ?_
              refine q_bipush rfl rfl ?_
              refine q_icge rfl rfl (fun c256 => absurd c256 (by decide)) (fun c256 => ?_)
              refine q_aload_n rfl rfl rfl ?_
              refine q_getf rfl rfl (by decide) (FW_46 S hW) rfl ?_
              refine q_bipush rfl rfl ?_
              refine q_iload_n rfl rfl rfl ?_
              refine q_imul rfl rfl (q_tn (z := 180) rfl ?_)
              refine q_iload_n rfl rfl rfl ?_
              refine q_iadd rfl rfl (q_tn (z := 196) rfl ?_)
              refine q_lconst rfl rfl ?_
              refine q_last rfl rfl (by decide) rfl (by decide) ?_
              refine q_icc2 (z := 17) rfl rfl rfl rfl rfl ?_
              refine q_goto rfl ?_
              refine q_iload_n rfl rfl rfl ?_
              refine q_bipush rfl rfl ?_
              refine q_icge rfl rfl (fun c257 => absurd c257 (by decide)) (fun c257 => ?_)
              refine q_aload_n rfl rfl rfl ?_
              refine q_getf rfl rfl (by decide) (FW_46 S hW) rfl ?_
              refine q_bipush rfl rfl ?_
              refine q_iload_n rfl rfl rfl ?_
              refine q_imul rfl rfl (q_tn (z := 180) rfl ?_)
              refine q_iload_n rfl rfl rfl ?_
              refine q_iadd rfl rfl (q_tn (z := 197) rfl ?_)
              refine q_lconst rfl rfl ?_
              refine q_last rfl rfl (by decide) rfl (by decide) ?_
              refine q_icc2 (z := 18) rfl rfl rfl rfl rfl ?_
              refine q_goto rfl ?_
              refine q_iload_n rfl rfl rfl ?_
              refine q_bipush rfl rfl ?_
              refine q_icge rfl rfl (fun c258 => absurd c258 (by decide)) (fun c258 => ?_)
              refine q_aload_n rfl rfl rfl ?_
              refine q_getf rfl rfl (by decide) (FW_46 S hW) rfl ?_
              refine q_bipush rfl rfl ?_
              refine q_iload_n rfl rfl rfl ?_
              refine q_imul rfl rfl (q_tn (z := 180) rfl ?_)
              refine q_iload_n rfl rfl rfl ?_
              refine q_iadd rfl rfl (q_tn (z := 198) rfl ?_)
              refine q_lconst rfl rfl ?_
              refine q_last rfl rfl (by decide) rfl (by decide) ?_
              refine q_icc2 (z := 19) rfl rfl rfl rfl rfl ?_
              refine q_goto rfl ?_
              refine q_iload_n rfl rfl rfl ?_
              refine q_bipush rfl rfl ?_
              refine q_icge rfl rfl (fun c259 => absurd c259 (by decide)) (fun c259 => ?_)
              refine q_aload_n rfl rfl rfl ?_
              refine q_getf rfl rfl (by decide) (FW_46 S hW) rfl ?_
              refine q_bipush rfl rfl ?_
              refine q_iload_n rfl rfl rfl ?_
              refine q_imul rfl rfl (q_tn (z := 180) rfl ?_)
              refine q_iload_n rfl rfl rfl ?_
              refine q_iadd rfl rfl (q_tn (z := 199) rfl ?_)
              refine q_lconst rfl rfl ?_
              refine q_last rfl rfl (by decide) rfl (by decide) ?_
              refine q_icc2 (z := 20) rfl rfl rfl rfl rfl ?_
              refine q_goto rfl ?_
              refine q_iload_n rfl rfl rfl ?_
              refine q_bipush rfl rfl ?_
              refine q_icge rfl rfl (fun c260 => absurd c260 (by decide)) (fun c260 => ?_)
              refine q_aload_n rfl rfl rfl ?_
              refine q_getf rfl rfl (by decide) (FW_46 S hW) rfl ?_
              refine q_bipush rfl rfl ?_
              refine q_iload_n rfl rfl rfl ?_
              refine q_imul rfl rfl (q_tn (z := 180) rfl ?_)
              refine q_iload_n rfl rfl rfl ?_
              refine q_iadd rfl rfl (q_tn (z := 200) rfl ?_)
              refine q_lconst rfl rfl ?_
              refine q_last rfl rfl (by decide) rfl (by decide) ?_
              refine q_icc2 (z := 21) rfl rfl rfl rfl rfl ?_
              refine q_goto rfl ?_
              refine q_iload_n rfl rfl rfl ?_
              refine q_bipush rfl rfl ?_
              refine q_icge rfl rfl (fun c261 => absurd c261 (by decide)) (fun c261 => ?_)
              refine q_aload_n rfl rfl rfl ?_
              refine q_getf rfl rfl (by decide) (FW_46 S hW) rfl ?_
              refine q_bipush rfl rfl ?_
              refine q_iload_n rfl rfl rfl ?_
              refine q_imul rfl rfl (q_tn (z := 180) rfl ?_)
              refine q_iload_n rfl rfl rfl ?_
              refine q_iadd rfl rfl (q_tn (z := 201) rfl ?_)
              refine q_lconst rfl rfl ?_
              refine q_last rfl rfl (by decide) rfl (by decide) ?_
              refine q_icc2 (z := 22) rfl rfl rfl rfl rfl ?_
              refine q_goto rfl ?_
              refine q_iload_n rfl rfl rfl ?_
              refine q_bipush rfl rfl ?_
              refine q_icge rfl rfl (fun c262 => absurd c262 (by decide)) (fun c262 => ?_)
              refine q_aload_n rfl rfl rfl ?_
              refine q_getf rfl rfl (by decide) (FW_46 S hW) rfl ?_
              refine q_bipush rfl rfl ?_
              refine q_iload_n rfl rfl rfl ?_
              refine q_imul rfl rfl (q_tn (z := 180) rfl ?_)
              refine q_iload_n rfl rfl rfl ?_
              refine q_iadd rfl rfl (q_tn (z := 202) rfl ?_)
              refine q_lconst rfl rfl ?_
              refine q_last rfl rfl (by decide) rfl (by decide) ?_
              refine q_icc2 (z := 23) rfl rfl rfl rfl rfl ?_
              refine q_goto rfl ?_
              refine q_iload_n rfl rfl rfl ?_
              refine q_bipush rfl rfl ?_
              refine q_icge rfl rfl (fun c263 => absurd c263 (by decide)) (fun c263 => ?_)
              refine q_aload_n rfl rfl rfl ?_
              refine q_getf rfl rfl (by decide) (FW_46 S hW) rfl ?_
              refine q_bipush rfl rfl ?_
              refine q_iload_n rfl rfl rfl ?_
              refine q_imul rfl rfl (q_tn (z := 180) rfl ?_)
              refine q_iload_n rfl rfl rfl ?_
              refine q_iadd rfl rfl (q_tn (z := 203) rfl ?_)
              refine q_lconst rfl rfl ?_
              refine q_last rfl rfl (by decide) rfl (by decide) ?_
              refine q_icc2 (z := 24) rfl rfl rfl rfl rfl ?_
              refine q_goto rfl ?_
              refine q_iload_n rfl rfl rfl ?_
              refine q_bipush rfl rfl ?_
              refine q_icge rfl rfl (fun c264 => absurd c264 (by decide)) (fun c264 => ?_)
              refine q_aload_n rfl rfl rfl ?_
              refine q_getf rfl rfl (by decide) (FW_46 S hW) rfl ?_
              refine q_bipush rfl rfl ?_
              refine q_iload_n rfl rfl rfl ?_
              refine q_imul rfl rfl (q_tn (z := 180) rfl ?_)
              refine q_iload_n rfl rfl rfl ?_
              refine q_iadd rfl rfl (q_tn (z := 204) rfl ?_)
              refine q_lconst rfl rfl ?_
              refine q_last rfl rfl (by decide) rfl (by decide) ?_
              refine q_icc2 (z := 25) rfl rfl rfl rfl rfl ?_
              refine q_goto rfl ?_
              refine q_iload_n rfl rfl rfl ?_
              refine q_bipush rfl rfl ?_
              refine q_icge rfl rfl (fun c265 => absurd c265 (by decide)) (fun c265 => ?_)
              refine q_aload_n rfl rfl rfl ?_
              refine q_getf rfl rfl (by decide) (FW_46 S hW) rfl ?_
              refine q_bipush rfl rfl ?_
              refine q_iload_n rfl rfl rfl ?_
              refine q_imul rfl rfl (q_tn (z := 180) rfl ?_)
              refine q_iload_n rfl rfl rfl ?_
              refine q_iadd rfl rfl (q_tn (z := 205) rfl ?_)
              refine q_lconst rfl rfl ?_
              refine q_last rfl rfl (by decide) rfl (by decide) ?_
              refine q_icc2 (z := 26) rfl rfl rfl rfl rfl ?_
              refine q_goto rfl ?_
              refine q_iload_n rfl rfl rfl ?_
              refine q_bipush rfl rfl ?_
              refine q_icge rfl rfl (fun c266 => absurd c266 (by decide)) (fun c266 => ?_)
              refine q_aload_n rfl rfl rfl ?_
              refine q_getf rfl rfl (by decide) (FW_46 S hW) rfl ?_
              refine q_bipush rfl rfl ?_
              refine q_iload_n rfl rfl rfl ?_
              refine q_imul rfl rfl (q_tn (z := 180) rfl ?_)
              refine q_iload_n rfl rfl rfl ?_
              refine q_iadd rfl rfl (q_tn (z := 206) rfl ?_)
              refine q_lconst rfl rfl ?_
              refine q_last rfl rfl (by decide) rfl (by decide) ?_
              refine q_icc2 (z := 27) rfl rfl rfl rfl rfl ?_
              refine q_goto rfl ?_
              refine q_iload_n rfl rfl rfl ?_
              refine q_bipush rfl rfl ?_
              refine q_icge rfl rfl (fun c267 => absurd c267 (by decide)) (fun c267 => ?_)
              refine q_aload_n rfl rfl rfl ?_
              refine q_getf rfl rfl (by decide) (FW_46 S hW) rfl ?_
              refine q_bipush rfl rfl ?_
              refine q_iload_n rfl rfl rfl ?_
              refine q_imul rfl rfl (q_tn (z := 180) rfl ?_)
              refine q_iload_n rfl rfl rfl ?_
              refine q_iadd rfl rfl (q_tn (z := 207) rfl ?_)
              refine q_lconst rfl rfl ?_
              refine q_last rfl rfl (by decide) rfl (by decide) ?_
              refine q_icc2 (z := 28) rfl rfl rfl rfl rfl ?_
              refine q_goto rfl ?_
              refine q_iload_n rfl rfl rfl ?_
              refine q_bipush rfl rfl ?_
              refine q_icge rfl rfl (fun c268 => absurd c268 (by decide)) (fun c268 => ?_)
              refine q_aload_n rfl rfl rfl ?_
              refine q_getf rfl rfl (by decide) (FW_46 S hW) rfl ?_
              refine q_bipush rfl rfl ?_
              refine q_iload_n rfl rfl rfl ?_
              refine q_imul rfl rfl (q_tn (z := 180) rfl ?_)
              refine q_iload_n rfl rfl rfl ?_
              refine q_iadd rfl rfl (q_tn (z := 208) rfl ?_)
              refine q_lconst rfl rfl ?_
              refine q_last rfl rfl (by decide) rfl (by decide) ?_
              refine q_icc2 (z := 29) rfl rfl rfl rfl rfl ?_
              refine q_goto rfl ?_
              refine q_iload_n rfl rfl rfl ?_
              refine q_bipush rfl rfl ?_
              refine q_icge rfl rfl (fun c269 => absurd c269 (by decide)) (fun c269 => ?_)
              refine q_aload_n rfl rfl rfl ?_
              refine q_getf rfl rfl (by decide) (FW_46 S hW) rfl ?_
              refine q_bipush rfl rfl ?_
              refine q_iload_n rfl rfl rfl ?_
              refine q_imul rfl rfl (q_tn (z := 180) rfl ?_)
              refine q_iload_n rfl rfl rfl ?_
              refine q_iadd rfl rfl (q_tn (z := 209) rfl ?_)
              refine q_lconst rfl rfl ?_
              refine q_last rfl rfl (by decide) rfl (by decide) ?_
              refine q_icc2 (z := 30) rfl rfl rfl rfl rfl ?_
              refine q_goto rfl ?_
              refine q_iload_n rfl rfl rfl ?_
              refine q_bipush rfl rfl ?_
              refine q_icge rfl rfl (fun c270 => absurd c270 (by decide)) (fun c270 => ?_)
              refine q_aload_n rfl rfl rfl ?_
              refine q_getf rfl rfl (by decide) (FW_46 S hW) rfl ?_
              refine q_bipush rfl rfl ?_
              refine q_iload_n rfl rfl rfl ?_
              refine q_imul rfl rfl (q_tn (z := 180) rfl ?_)
              refine q_iload_n rfl rfl rfl ?_
              refine q_iadd rfl rfl (q_tn (z := 210) rfl ?_)
              refine q_lconst rfl rfl ?_
              refine q_last rfl rfl (by decide) rfl (by decide) ?_
              refine q_icc2 (z := 31) rfl rfl rfl rfl rfl ?_
              refine q_goto rfl ?_
              refine q_iload_n rfl rfl rfl ?_
              refine q_bipush rfl rfl ?_
              refine q_icge rfl rfl (fun c271 => absurd c271 (by decide)) (fun c271 => ?_)
              refine q_aload_n rfl rfl rfl ?_
              refine q_getf rfl rfl (by decide) (FW_46 S hW) rfl ?_
              refine q_bipush rfl rfl ?_
              refine q_iload_n rfl rfl rfl ?_
              refine q_imul rfl rfl (q_tn (z := 180) rfl ?_)
              refine q_iload_n rfl rfl rfl ?_
              refine q_iadd rfl rfl (q_tn (z := 211) rfl ?_)
              refine q_lconst rfl rfl ?_
              refine q_last rfl rfl (by decide) rfl (by decide) ?_
              refine q_icc2 (z := 32) rfl rfl rfl rfl rfl ?_
              refine q_goto rfl ?_
              refine q_iload_n rfl rfl rfl ?_
              refine q_bipush rfl rfl ?_
              refine q_icge rfl rfl (fun c272 => absurd c272 (by decide)) (fun c272 => ?_)
              refine q_aload_n rfl rfl rfl ?_
              refine q_getf rfl rfl (by decide) (FW_46 S hW) rfl ?_
              refine q_bipush rfl rfl ?_
              refine q_iload_n rfl rfl rfl ?_
              refine q_imul rfl rfl (q_tn (z := 180) rfl ?_)
              refine q_iload_n rfl rfl rfl ?_
              refine q_iadd rfl rfl (q_tn (z := 212) rfl ?_)
              refine q_lconst rfl rfl ?_
              refine q_last rfl rfl (by decide) rfl (by decide) ?_
              refine q_icc2 (z := 33) rfl rfl rfl rfl rfl ?_
              refine q_goto rfl ?_
              refine q_iload_n rfl rfl rfl ?_
              refine q_bipush rfl rfl ?_
              refine q_icge rfl rfl (fun c273 => absurd c273 (by decide)) (fun c273 => ?_)
              refine q_aload_n rfl rfl rfl ?_
              refine q_getf rfl rfl (by decide) (FW_46 S hW) rfl ?_
              refine q_bipush rfl rfl ?_
              refine q_iload_n rfl rfl rfl ?_
              refine q_imul rfl rfl (q_tn (z := 180) rfl ?_)
              refine q_iload_n rfl rfl rfl ?_
              refine q_iadd rfl rfl (q_tn (z := 213) rfl ?_)
              refine q_lconst rfl rfl ?_
              refine q_last rfl rfl (by decide) rfl (by decide) ?_
              refine q_icc2 (z := 34) rfl rfl rfl rfl rfl ?_
              refine q_goto rfl ?_
              refine q_iload_n rfl rfl rfl ?_
              refine q_bipush rfl rfl ?_
              refine q_icge rfl rfl (fun c274 => absurd c274 (by decide)) (fun c274 => ?_)
              refine q_aload_n rfl rfl rfl ?_
              refine q_getf rfl rfl (by decide) (FW_46 S hW) rfl ?_
              refine q_bipush rfl rfl ?_
              refine q_iload_n rfl rfl rfl ?_
              refine q_imul rfl rfl (q_tn (z := 180) rfl ?_)
              refine q_iload_n rfl rfl rfl ?_
              refine q_iadd rfl rfl (q_tn (z := 214) rfl ?_)
              refine q_lconst rfl rfl ?_
              refine q_last rfl rfl (by decide) rfl (by decide) ?_
              refine q_icc2 (z := 35) rfl rfl rfl rfl rfl ?_
              refine q_goto rfl ?_
              refine q_iload_n rfl rfl rfl ?_
              refine q_bipush rfl rfl ?_
              refine q_icge rfl rfl (fun c275 => absurd c275 (by decide)) (fun c275 => ?_)
              refine q_aload_n rfl rfl rfl ?_
              refine q_getf rfl rfl (by decide) (FW_46 S hW) rfl ?_
              refine q_bipush rfl rfl ?_
              refine q_iload_n rfl rfl rfl ?_
              refine q_imul rfl rfl (q_tn (z := 180) rfl ?_)
              refine q_iload_n rfl rfl rfl ?_
              refine q_iadd rfl rfl (q_tn (z := 215) rfl ?_)
              refine q_lconst rfl rfl ?_
              refine q_last rfl rfl (by decide) rfl (by decide) ?_
              refine q_icc2 (z := 36) rfl rfl rfl rfl rfl ?_
              refine q_goto rfl ?_
              refine q_iload_n rfl rfl rfl ?_
              refine q_bipush rfl rfl ?_
              refine q_icge rfl rfl (fun c276 => absurd c276 (by decide)) (fun c276 => ?_)
              refine q_aload_n rfl rfl rfl ?_
              refine q_getf rfl rfl (by decide) (FW_46 S hW) rfl ?_
              refine q_bipush rfl rfl ?_
              refine q_iload_n rfl rfl rfl ?_
              refine q_imul rfl rfl (q_tn (z := 180) rfl ?_)
              refine q_iload_n rfl rfl rfl ?_
              refine q_iadd rfl rfl (q_tn (z := 216) rfl ?_)
              refine q_lconst rfl rfl ?_
              refine q_last rfl rfl (by decide) rfl (by decide) ?_
              refine q_icc2 (z := 37) rfl rfl rfl rfl rfl ?_
              refine q_goto rfl ?_
              refine q_iload_n rfl rfl rfl ?_
              refine q_bipush rfl rfl ?_
              refine q_icge rfl rfl (fun c277 => absurd c277 (by decide)) (fun c277 => ?_)
              refine q_aload_n rfl rfl rfl ?_
              refine q_getf rfl rfl (by decide) (FW_46 S hW) rfl ?_
              refine q_bipush rfl rfl ?_
              refine q_iload_n rfl rfl rfl ?_
              refine q_imul rfl rfl (q_tn (z := 180) rfl ?_)
              refine q_iload_n rfl rfl rfl ?_
              refine q_iadd rfl rfl (q_tn (z := 217) rfl ?_)
              refine q_lconst rfl rfl ?_
              refine q_last rfl rfl (by decide) rfl (by decide) ?_
              refine q_icc2 (z := 38) rfl rfl rfl rfl rfl ?_
              refine q_goto rfl ?_
              refine q_iload_n rfl rfl rfl ?_
              refine q_bipush rfl rfl ?_
              refine q_icge rfl rfl (fun c278 => absurd c278 (by decide)) (fun c278 => ?_)
              refine q_aload_n rfl rfl rfl ?_
              refine q_getf rfl rfl (by decide) (FW_46 S hW) rfl ?_
              refine q_bipush rfl rfl ?_
              refine q_iload_n rfl rfl rfl ?_
              refine q_imul rfl rfl (q_tn (z := 180) rfl ?_)
              refine q_iload_n rfl rfl rfl ?_
              refine q_iadd rfl rfl (q_tn (z := 218) rfl ?_)
              refine q_lconst rfl rfl ?_
              refine q_last rfl rfl (by decide) rfl (by decide) ?_
              refine q_icc2 (z := 39) rfl rfl rfl rfl rfl ?_
              refine q_goto rfl ?_
              refine q_iload_n rfl rfl rfl ?_
              refine q_bipush rfl rfl ?_
              refine q_icge rfl rfl (fun c279 => absurd c279 (by decide)) (fun c279 => ?_)
              refine q_aload_n rfl rfl rfl ?_
              refine q_getf rfl rfl (by decide) (FW_46 S hW) rfl ?_
              refine q_bipush rfl rfl ?_
              refine q_iload_n rfl rfl rfl ?_
              refine q_imul rfl rfl (q_tn (z := 180) rfl ?_)
              refine q_iload_n rfl rfl rfl ?_
              refine q_iadd rfl rfl (q_tn (z := 219) rfl ?_)
              refine q_lconst rfl rfl ?_
              refine q_last rfl rfl (by decide) rfl (by decide) ?_
              refine q_icc2 (z := 40) rfl rfl rfl rfl rfl ?_
              refine q_goto rfl ?_
              refine q_iload_n rfl rfl rfl ?_
              refine q_bipush rfl rfl ?_
              refine q_icge rfl rfl (fun c280 => absurd c280 (by decide)) (fun c280 => ?_)
              refine q_aload_n rfl rfl rfl ?_
              refine q_getf rfl rfl (by decide) (FW_46 S hW) rfl ?_
              refine q_bipush rfl rfl ?_
              refine q_iload_n rfl rfl rfl ?_
              refine q_imul rfl rfl (q_tn (z := 180) rfl ?_)
              refine q_iload_n rfl rfl rfl ?_
              refine q_iadd rfl rfl (q_tn (z := 220) rfl ?_)
              refine q_lconst rfl rfl ?_
              refine q_last rfl rfl (by decide) rfl (by decide) ?_
              refine q_icc2 (z := 41) rfl rfl rfl rfl rfl ?_
              refine q_goto rfl ?_
              refine q_iload_n rfl rfl rfl ?_
              refine q_bipush rfl rfl ?_
              refine q_icge rfl rfl (fun c281 => absurd c281 (by decide)) (fun c281 => ?_)
              refine q_aload_n rfl rfl rfl ?_
              refine q_getf rfl rfl (by decide) (FW_46 S hW) rfl ?_
              refine q_bipush rfl rfl ?_
              refine q_iload_n rfl rfl rfl ?_
              refine q_imul rfl rfl (q_tn (z := 180) rfl ?_)
              refine q_iload_n rfl rfl rfl ?_
              refine q_iadd rfl rfl (q_tn (z := 221) rfl ?_)
              refine q_lconst rfl rfl ?_
              refine q_last rfl rfl (by decide) rfl (by decide) ?_
              refine q_icc2 (z := 42) rfl rfl rfl rfl rfl ?_
              refine q_goto rfl ?_
              refine q_iload_n rfl rfl rfl ?_
              refine q_bipush rfl rfl ?_
              refine q_icge rfl rfl (fun c282 => absurd c282 (by decide)) (fun c282 => ?_)
              refine q_aload_n rfl rfl rfl ?_
              refine q_getf rfl rfl (by decide) (FW_46 S hW) rfl ?_
              refine q_bipush rfl rfl ?_
              refine q_iload_n rfl rfl rfl ?_
              refine q_imul rfl rfl (q_tn (z := 180) rfl ?_)
              refine q_iload_n rfl rfl rfl ?_
              refine q_iadd rfl rfl (q_tn (z := 222) rfl ?_)
              refine q_lconst rfl rfl ?_
              refine q_last rfl rfl (by decide) rfl (by decide) ?_
              refine q_icc2 (z := 43) rfl rfl rfl rfl rfl ?_
              refine q_goto rfl ?_
              refine q_iload_n rfl rfl rfl ?_
              refine q_bipush rfl rfl ?_
              refine q_icge rfl rfl (fun c283 => absurd c283 (by decide)) (fun c283 => ?_)
              refine q_aload_n rfl rfl rfl ?_
              refine q_getf rfl rfl (by decide) (FW_46 S hW) rfl ?_
              refine q_bipush rfl rfl ?_
              refine q_iload_n rfl rfl rfl ?_
              refine q_imul rfl rfl (q_tn (z := 180) rfl ?_)
              refine q_iload_n rfl rfl rfl ?_
              refine q_iadd rfl rfl (q_tn (z := 223) rfl ?_)
              refine q_lconst rfl rfl ?_
              refine q_last rfl rfl (by decide) rfl (by decide) ?_
              refine q_icc2 (z := 44) rfl rfl rfl rfl rfl ?_
              refine q_goto rfl ?_
              refine q_iload_n rfl rfl rfl ?_
              refine q_bipush rfl rfl ?_
              refine q_icge rfl rfl (fun c284 => absurd c284 (by decide)) (fun c284 => ?_)
              refine q_aload_n rfl rfl rfl ?_
              refine q_getf rfl rfl (by decide) (FW_46 S hW) rfl ?_
              refine q_bipush rfl rfl ?_
              refine q_iload_n rfl rfl rfl ?_
              refine q_imul rfl rfl (q_tn (z := 180) rfl ?_)
              refine q_iload_n rfl rfl rfl ?_
              refine q_iadd rfl rfl (q_tn (z := 224) rfl ?_)
              refine q_lconst rfl rfl ?_
              refine q_last rfl rfl (by decide) rfl (by decide) ?_
              refine q_icc2 (z := 45) rfl rfl rfl rfl rfl ?_
              refine q_goto rfl ?_
              refine q_iload_n rfl rfl rfl ?_
              refine q_bipush rfl rfl ?_
              refine q_icge rfl rfl (fun c285 => absurd c285 (by decide)) (fun c285 => ?_)
              refine q_aload_n rfl rfl rfl ?_
              refine q_getf rfl rfl (by decide) (FW_46 S hW) rfl ?_
              refine q_bipush rfl rfl ?_
              refine q_iload_n rfl rfl rfl ?_
              refine q_imul rfl rfl (q_tn (z := 180) rfl ?_)
              refine q_iload_n rfl rfl rfl ?_
              refine q_iadd rfl rfl (q_tn (z := 225) rfl ?_)
              refine q_lconst rfl rfl ?_
              refine q_last rfl rfl (by decide) rfl (by decide) ?_
              refine q_icc2 (z := 46) rfl rfl rfl rfl rfl ?_
              refine q_goto rfl ?_
              refine q_iload_n rfl rfl rfl ?_
              refine q_bipush rfl rfl ?_
              refine q_icge rfl rfl (fun c286 => absurd c286 (by decide)) (fun c286 => ?_)
              refine q_aload_n rfl rfl rfl ?_
              refine q_getf rfl rfl (by decide) (FW_46 S hW) rfl ?_
              refine q_bipush rfl rfl ?_
              refine q_iload_n rfl rfl rfl ?_
              refine q_imul rfl rfl (q_tn (z := 180) rfl ?_)
              refine q_iload_n rfl rfl rfl ?_
              refine q_iadd rfl rfl (q_tn (z := 226) rfl ?_)
              refine q_lconst rfl rfl ?_
              refine q_last rfl rfl (by decide) rfl (by decide) ?_
              refine q_icc2 (z := 47) rfl rfl rfl rfl rfl ?_
              refine q_goto rfl ?_
              refine q_iload_n rfl rfl rfl ?_
              refine q_bipush rfl rfl ?_
              refine q_icge rfl rfl (fun c287 => absurd c287 (by decide)) (fun c287 => ?_)
              refine q_aload_n rfl rfl rfl ?_
              refine q_getf rfl rfl (by decide) (FW_46 S hW) rfl ?_
              refine q_bipush rfl rfl ?_
              refine q_iload_n rfl rfl rfl ?_
              refine q_imul rfl rfl (q_tn (z := 180) rfl ?_)
              refine q_iload_n rfl rfl rfl ?_
              refine q_iadd rfl rfl (q_tn (z := 227) rfl ?_)
              refine q_lconst rfl rfl ?_
              refine q_last rfl rfl (by decide) rfl (by decide) ?_
              refine q_icc2 (z := 48) rfl rfl rfl rfl rfl ?_
              refine q_goto rfl ?_
              refine q_iload_n rfl rfl rfl ?_
              refine q_bipush rfl rfl ?_
              refine q_icge rfl rfl (fun c288 => absurd c288 (by decide)) (fun c288 => ?_)
              refine q_aload_n rfl rfl rfl ?_
              refine q_getf rfl rfl (by decide) (FW_46 S hW) rfl ?_
              refine q_bipush rfl rfl ?_
              refine q_iload_n rfl rfl rfl ?_
              refine q_imul rfl rfl (q_tn (z := 180) rfl ?_)
              refine q_iload_n rfl rfl rfl ?_
              refine q_iadd rfl rfl (q_tn (z := 228) rfl ?_)
              refine q_lconst rfl rfl ?_
              refine q_last rfl rfl (by decide) rfl (by decide) ?_
              refine q_icc2 (z := 49) rfl rfl rfl rfl rfl ?_
              refine q_goto rfl ?_
              refine q_iload_n rfl rfl rfl ?_
              refine q_bipush rfl rfl ?_
              refine q_icge rfl rfl (fun c289 => absurd c289 (by decide)) (fun c289 => ?_)
              refine q_aload_n rfl rfl rfl ?_
              refine q_getf rfl rfl (by decide) (FW_46 S hW) rfl ?_
              refine q_bipush rfl rfl ?_
              refine q_iload_n rfl rfl rfl ?_
              refine q_imul rfl rfl (q_tn (z := 180) rfl ?_)
              refine q_iload_n rfl rfl rfl ?_
              refine q_iadd rfl rfl (q_tn (z := 229) rfl ?_)
              refine q_lconst rfl rfl ?_
              refine q_last rfl rfl (by decide) rfl (by decide) ?_
              refine q_icc2 (z := 50) rfl rfl rfl rfl rfl ?_
              refine q_goto rfl ?_
              refine q_iload_n rfl rfl rfl ?_
              refine q_bipush rfl rfl ?_
              refine q_icge rfl rfl (fun c290 => absurd c290 (by decide)) (fun c290 => ?_)
              refine q_aload_n rfl rfl rfl ?_
              refine q_getf rfl rfl (by decide) (FW_46 S hW) rfl ?_
              refine q_bipush rfl rfl ?_
              refine q_iload_n rfl rfl rfl ?_
              refine q_imul rfl rfl (q_tn (z := 180) rfl ?_)
              refine q_iload_n rfl rfl rfl ?_
              refine q_iadd rfl rfl (q_tn (z := 230) rfl ?_)
              refine q_lconst rfl rfl ?_
              refine q_last rfl rfl (by decide) rfl (by decide) ?_
              refine q_icc2 (z := 51) rfl rfl rfl rfl rfl ?_
              refine q_goto rfl ?_
              refine q_iload_n rfl rfl rfl ?_
              refine q_bipush rfl rfl ?_
              refine q_icge rfl rfl (fun c291 => absurd c291 (by decide)) (fun c291 => ?_)
              refine q_aload_n rfl rfl rfl ?_
              refine q_getf rfl rfl (by decide) (FW_46 S hW) rfl ?_
              refine q_bipush rfl rfl ?_
              refine q_iload_n rfl rfl rfl ?_
              refine q_imul rfl rfl (q_tn (z := 180) rfl ?_)
              refine q_iload_n rfl rfl rfl ?_
              refine q_iadd rfl rfl (q_tn (z := 231) rfl ?_)
              refine q_lconst rfl rfl ?_
              refine q_last rfl rfl (by decide) rfl (by decide) ?_
              refine q_icc2 (z := 52) rfl rfl rfl rfl rfl ?_
              refine q_goto rfl ?_
              refine q_iload_n rfl rfl rfl ?_
              refine q_bipush rfl rfl ?_
              refine q_icge rfl rfl (fun c292 => absurd c292 (by decide)) (fun c292 => ?_)
              refine q_aload_n rfl rfl rfl ?_
              refine q_getf rfl rfl (by decide) (FW_46 S hW) rfl ?_
              refine q_bipush rfl rfl ?_
              refine q_iload_n rfl rfl rfl ?_
              refine q_imul rfl rfl (q_tn (z := 180) rfl ?_)
              refine q_iload_n rfl rfl rfl ?_
              refine q_iadd rfl rfl (q_tn (z := 232) rfl ?_)
              refine q_lconst rfl rfl ?_
              refine q_last rfl rfl (by decide) rfl (by decide) ?_
              refine q_icc2 (z := 53) rfl rfl rfl rfl rfl ?_
              refine q_goto rfl ?_
              refine q_iload_n rfl rfl rfl ?_
              refine q_bipush rfl rfl ?_
              refine q_icge rfl rfl (fun c293 => absurd c293 (by decide)) (fun c293 => ?_)
              refine q_aload_n rfl rfl rfl ?_
              refine q_getf rfl rfl (by decide) (FW_46 S hW) rfl ?_
              refine q_bipush rfl rfl ?_
              refine q_iload_n rfl rfl rfl ?_
              refine q_imul rfl rfl (q_tn (z := 180) rfl ?_)
              refine q_iload_n rfl rfl rfl ?_
              refine q_iadd rfl rfl (q_tn (z := 233) rfl ?_)
              refine q_lconst rfl rfl ?_
              refine q_last rfl rfl (by decide) rfl (by decide) ?_
              refine q_icc2 (z := 54) rfl rfl rfl rfl rfl ?_
              refine q_goto rfl ?_
              refine q_iload_n rfl rfl rfl ?_
              refine q_bipush rfl rfl ?_
              refine q_icge rfl rfl (fun c294 => absurd c294 (by decide)) (fun c294 => ?_)
              refine q_aload_n rfl rfl rfl ?_
              refine q_getf rfl rfl (by decide) (FW_46 S hW) rfl ?_
              refine q_bipush rfl rfl ?_
              refine q_iload_n rfl rfl rfl ?_
              refine q_imul rfl rfl (q_tn (z := 180) rfl ?_)
              refine q_iload_n rfl rfl rfl ?_
              refine q_iadd rfl rfl (q_tn (z := 234) rfl ?_)
              refine q_lconst rfl rfl ?_
              refine q_last rfl rfl (by decide) rfl (by decide) ?_
              refine q_icc2 (z := 55) rfl rfl rfl rfl rfl ?_
              refine q_goto rfl ?_
              refine q_iload_n rfl rfl rfl ?_
              refine q_bipush rfl rfl ?_
              refine q_icge rfl rfl (fun c295 => absurd c295 (by decide)) (fun c295 => ?_)
              refine q_aload_n rfl rfl rfl ?_
              refine q_getf rfl rfl (by decide) (FW_46 S hW) rfl ?_
              refine q_bipush rfl rfl ?_
              refine q_iload_n rfl rfl rfl ?_
              refine q_imul rfl rfl (q_tn (z := 180) rfl ?_)
              refine q_iload_n rfl rfl rfl ?_
              refine q_iadd rfl rfl (q_tn (z := 235) rfl ?_)
              refine q_lconst rfl rfl ?_
              refine q_last rfl rfl (by decide) rfl (by decide) ?_
              refine q_icc2 (z := 56) rfl rfl rfl rfl rfl ?_
              refine q_goto rfl ?_
              refine q_iload_n rfl rfl rfl ?_
              refine q_bipush rfl rfl ?_
              refine q_icge rfl rfl (fun c296 => absurd c296 (by decide)) (fun c296 => ?_)
              refine q_aload_n rfl rfl rfl ?_
              refine q_getf rfl rfl (by decide) (FW_46 S hW) rfl ?_
              refine q_bipush rfl rfl ?_
              refine q_iload_n rfl rfl rfl ?_
              refine q_imul rfl rfl (q_tn (z := 180) rfl ?_)
              refine q_iload_n rfl rfl rfl ?_
              refine q_iadd rfl rfl (q_tn (z := 236) rfl ?_)
              refine q_lconst rfl rfl ?_
              refine q_last rfl rfl (by decide) rfl (by decide) ?_
              refine q_icc2 (z := 57) rfl rfl rfl rfl rfl ?_
              refine q_goto rfl ?_
              refine q_iload_n rfl rfl rfl ?_
              refine q_bipush rfl rfl ?_
              refine q_icge rfl rfl (fun c297 => absurd c297 (by decide)) (fun c297 => ?_)
              refine q_aload_n rfl rfl rfl ?_
              refine q_getf rfl rfl (by decide) (FW_46 S hW) rfl ?_
              refine q_bipush rfl rfl ?_
              refine q_iload_n rfl rfl rfl ?_
              refine q_imul rfl rfl (q_tn (z := 180) rfl ?_)
              refine q_iload_n rfl rfl rfl ?_
              refine q_iadd rfl rfl (q_tn (z := 237) rfl ?_)
              refine q_lconst rfl rfl ?_
              refine q_last rfl rfl (by decide) rfl (by decide) ?_
              refine q_icc2 (z := 58) rfl rfl rfl rfl rfl ?_
              refine q_goto rfl ?_
              refine q_iload_n rfl rfl rfl ?_
              refine q_bipush rfl rfl ?_
              refine q_icge rfl rfl (fun c298 => absurd c298 (by decide)) (fun c298 => ?_)
              refine q_aload_n rfl rfl rfl ?_
              refine q_getf rfl rfl (by decide) (FW_46 S hW) rfl ?_
              refine q_bipush rfl rfl ?_
              refine q_iload_n rfl rfl rfl ?_
              refine q_imul rfl rfl (q_tn (z := 180) rfl ?_)
              refine q_iload_n rfl rfl rfl ?_
              refine q_iadd rfl rfl (q_tn (z := 238) rfl ?_)
              refine q_lconst rfl rfl ?_
              refine q_last rfl rfl (by decide) rfl (by decide) ?_
              refine q_icc2 (z := 59) rfl rfl rfl rfl rfl ?_
              refine q_goto rfl ?_
              refine q_iload_n rfl rfl rfl ?_
              refine q_bipush rfl rfl ?_
              refine q_icge rfl rfl (fun c299 => absurd c299 (by decide)) (fun c299 => ?_)
              refine q_aload_n rfl rfl rfl ?_
              refine q_getf rfl rfl (by decide) (FW_46 S hW) rfl ?_
              refine q_bipush rfl rfl ?_
              refine q_iload_n rfl rfl rfl ?_
              refine q_imul rfl rfl (q_tn (z := 180) rfl ?_)
              refine q_iload_n rfl rfl rfl ?_
              refine q_iadd rfl rfl (q_tn (z := 239) rfl ?_)
              refine q_lconst rfl rfl ?_
              refine q_last rfl rfl (by decide) rfl (by decide) ?_
              refine q_icc2 (z := 60) rfl rfl rfl rfl rfl ?_
              refine q_goto rfl ?_
              refine q_iload_n rfl rfl rfl ?_
              refine q_bipush rfl rfl ?_
              refine q_icge rfl rfl (fun c300 => ?_) (fun c300 => absurd (by decide) c300)
              refine q_ret rfl rfl ?_
              refine ⟨rfl, ?_⟩
              refine q_iconst rfl rfl ?_
              refine q_iret rfl rfl trivial ?_
              refine ⟨_, rfl, ?_⟩
              refine q_iceq rfl rfl (fun c301 => ?_) (fun c301 => absurd (by decide) c301)
              refine q_icc4 (z := 6) rfl rfl rfl rfl rfl ?_
              refine q_goto rfl ?_
              refine q_iload rfl rfl rfl ?_
              refine q_aload_nF rfl rfl rfl ?_
              refine q_alenX (x := 6) rfl rfl rfl ?_
              refine q_bipush rfl rfl ?_
              refine q_isub rfl rfl (q_tn (z := 0) rfl ?_)
              refine q_icgt rfl rfl (fun c302 => ?_) (fun c302 => absurd (by decide) c302)
              refine q_iconst rfl rfl ?_
              refine q_iret rfl rfl rfl ?_
              exact hK _ _
            · refine q_aast rfl rfl (by decide) (by decide) (FW_43 S hW) rfl rfl (by decide) ?_
              refine q_iconst rfl rfl ?_
              refine q_iret rfl rfl trivial ?_
              refine ⟨_, rfl, ?_⟩
              refine q_aload_n rfl rfl rfl ?_
              refine q_aload_nF rfl rfl rfl ?_
              refine q_iload rfl rfl rfl ?_
              refine q_iconst rfl rfl ?_
              refine q_iadd rfl rfl (q_tn (z := 1) rfl ?_)
              refine q_ialdX (x := 4) rfl rfl rfl hx1 ?_
              refine q_aload_nF rfl rfl rfl ?_
              refine q_iload rfl rfl rfl ?_
              refine q_iconst rfl rfl ?_
              refine q_iadd rfl rfl (q_tn (z := 2) rfl ?_)
              refine q_ialdX (x := 3) rfl rfl rfl hx2 ?_
              refine q_aload_nF rfl rfl rfl ?_
              refine q_iload rfl rfl rfl ?_
              refine q_iconst rfl rfl ?_
              refine q_iadd rfl rfl (q_tn (z := 3) rfl ?_)
              refine q_ialdX (x := x3) rfl rfl rfl hx3 ?_
              refine q_nV3 rfl rfl (Or.inl rfl) rfl rfl rfl (by decide) (FW_46 S hW) ⟨rfl, rfl⟩ rfl ?_
              change PQ _ _ _ mm_X12_make 0 [.ref 46, .int 4, .int 3, .int x3] [] _ _ 0 0 _
              refine q_aload_n rfl rfl rfl ?_
              refine q_iload_n rfl rfl rfl ?_
              refine q_nV1 rfl rfl (Or.inl rfl) rfl rfl rfl (by decide) (FW_46 S hW) ⟨rfl, rfl⟩ rfl ?_
              change PQ _ _ _ mm_X12_isShelf 0 [.ref 46, .int 4] [] _ _ 0 0 _
              refine q_aload_n rfl rfl rfl ?_
              refine q_iload_n rfl rfl rfl ?_
              refine q_iconst rfl rfl ?_
              refine q_bipush rfl rfl ?_
              refine q_nV3 rfl rfl (Or.inl rfl) rfl rfl rfl (by decide) (FW_46 S hW) ⟨rfl, rfl⟩ rfl ?_
              change PQ _ _ _ mm_X12_in 0 [.ref 46, .int 4, .int 0, .int 7] [] _ _ 0 0 _
              refine q_iload_n rfl rfl rfl ?_
              refine q_iload_n rfl rfl rfl ?_
              refine q_iclt rfl rfl (fun c303 => absurd c303 (by decide)) (fun c303 => ?_)
              refine q_iload_n rfl rfl rfl ?_
              refine q_iload_n rfl rfl rfl ?_
              refine q_icgt rfl rfl (fun c304 => absurd c304 (by decide)) (fun c304 => ?_)
              refine q_iconst rfl rfl ?_
              refine q_goto rfl ?_
              refine q_iret rfl rfl rfl ?_
              refine ⟨_, rfl, ?_⟩
              refine q_iret rfl rfl rfl ?_
              refine ⟨_, rfl, ?_⟩
              refine q_ifeq rfl rfl (fun c305 => absurd c305 (by decide)) (fun c305 => ?_)
              refine q_aload_n rfl rfl rfl ?_
              refine q_iload_n rfl rfl rfl ?_
              refine q_iconst rfl rfl ?_
              refine q_iconst rfl rfl ?_
              refine q_nV3 rfl rfl (Or.inl rfl) rfl rfl rfl (by decide) (FW_46 S hW) ⟨rfl, rfl⟩ rfl ?_
              change PQ _ _ _ mm_X12_in 0 [.ref 46, .int 3, .int 3, .int 4] [] _ _ 0 0 _
              refine q_iload_n rfl rfl rfl ?_
              refine q_iload_n rfl rfl rfl ?_
              refine q_iclt rfl rfl (fun c306 => absurd c306 (by decide)) (fun c306 => ?_)
              refine q_iload_n rfl rfl rfl ?_
              refine q_iload_n rfl rfl rfl ?_
              refine q_icgt rfl rfl (fun c307 => absurd c307 (by decide)) (fun c307 => ?_)
              refine q_iconst rfl rfl ?_
              refine q_goto rfl ?_
              refine q_iret rfl rfl rfl ?_
              refine ⟨_, rfl, ?_⟩
              refine q_ifeq rfl rfl (fun c308 => absurd c308 (by decide)) (fun c308 => ?_)
              refine q_iload_n rfl rfl rfl ?_
              refine q_bipush rfl rfl ?_
              refine q_icle rfl rfl (fun c309 => ?_) (fun c309 => absurd (i_le_t c16 rfl) c309)
              refine q_iload_n rfl rfl rfl ?_
              refine q_ifge rfl rfl (fun c310 => ?_) (fun c310 => absurd (i_ge_t c17 rfl) c310)
              refine q_aload_n rfl rfl rfl ?_
              refine q_getf rfl rfl (by decide) (FW_46 S hW) rfl ?_
              refine q_iload_n rfl rfl rfl ?_
              refine q_iload_n rfl rfl rfl ?_
              refine q_iast rfl rfl (by decide) (FW_75 S hW) (by decide) ?_
              refine q_aload_n rfl rfl rfl ?_
              refine q_getf rfl rfl (by decide) (FW_46 S hW) rfl ?_
              refine q_iload_n rfl rfl rfl ?_
              refine q_iload_n rfl rfl rfl ?_
              refine q_iast rfl rfl (by decide) (FW_78 S hW) (by decide) ?_
              refine q_aload_n rfl rfl rfl ?_
              refine q_iload_n rfl rfl rfl ?_
              refine q_nV1v rfl rfl (Or.inl rfl) rfl rfl rfl (by decide) (FW_46 S hW) ⟨rfl, rfl⟩ rfl ?_
              change PQ _ _ _ mm_X12_clear 0 [.ref 46, .int 4, pm_un] [] _ _ 0 0 _
              refine q_iconst rfl rfl ?_
              refine q_ist2n rfl rfl rfl rfl ?_
              refine q_iload_n rfl rfl rfl ?_
              refine q_bipush rfl rfl ?_
              refine q_icge rfl rfl (fun c311 => absurd c311 (by decide)) (fun c311 => ?_)
              refine q_aload_n rfl rfl rfl ?_
              refine q_getf rfl rfl (by decide) (FW_46 S hW) rfl ?_
              refine q_bipush rfl rfl ?_
              refine q_iload_n rfl rfl rfl ?_
              refine q_imul rfl rfl (q_tn (z := 240) rfl ?_)
              refine q_iload_n rfl rfl rfl ?_
              refine q_iadd rfl rfl (q_tn (z := 240) rfl ?_)
              refine q_lconst rfl rfl ?_
              refine q_last rfl rfl (by decide) (FW_79 S hW) (by decide) ?_
              refine q_icc2 (z := 1) rfl rfl rfl rfl rfl ?_
              refine q_goto rfl ?_
              refine q_iload_n rfl rfl rfl ?_
              refine q_bipush rfl rfl ?_
              refine q_icge rfl rfl (fun c312 => absurd c312 (by decide)) (fun c312 => ?_)
              refine q_aload_n rfl rfl rfl ?_
              refine q_getf rfl rfl (by decide) (FW_46 S hW) rfl ?_
              refine q_bipush rfl rfl ?_
              refine q_iload_n rfl rfl rfl ?_
              refine q_imul rfl rfl (q_tn (z := 240) rfl ?_)
              refine q_iload_n rfl rfl rfl ?_
              refine q_iadd rfl rfl (q_tn (z := 241) rfl ?_)
              refine q_lconst rfl rfl ?_
              refine q_last rfl rfl (by decide) rfl (by decide) ?_
              refine q_icc2 (z := 2) rfl rfl rfl rfl rfl ?_
              refine q_goto rfl ?_
              refine q_iload_n rfl rfl rfl ?_
              refine q_bipush rfl rfl ?_
              refine q_icge rfl rfl (fun c313 => absurd c313 (by decide)) (fun c313 => ?_)
              refine q_aload_n rfl rfl rfl ?_
              refine q_getf rfl rfl (by decide) (FW_46 S hW) rfl ?_
              refine q_bipush rfl rfl ?_
              refine q_iload_n rfl rfl rfl ?_
              refine q_imul rfl rfl (q_tn (z := 240) rfl ?_)
              refine q_iload_n rfl rfl rfl ?_
              refine q_iadd rfl rfl (q_tn (z := 242) rfl ?_)
              refine q_lconst rfl rfl ?_
              refine q_last rfl rfl (by decide) rfl (by decide) ?_
              refine q_icc2 (z := 3) rfl rfl rfl rfl rfl ?_
              refine q_goto rfl ?_
              refine q_iload_n rfl rfl rfl ?_
              refine q_bipush rfl rfl ?_
              refine q_icge rfl rfl (fun c314 => absurd c314 (by decide)) (fun c314 => ?_)
              refine q_aload_n rfl rfl rfl ?_
              refine q_getf rfl rfl (by decide) (FW_46 S hW) rfl ?_
              refine q_bipush rfl rfl ?_
              refine q_iload_n rfl rfl rfl ?_
              refine q_imul rfl rfl (q_tn (z := 240) rfl ?_)
              refine q_iload_n rfl rfl rfl ?_
              refine q_iadd rfl rfl (q_tn (z := 243) rfl ?_)
              refine q_lconst rfl rfl ?_
              refine q_last rfl rfl (by decide) rfl (by decide) ?_
              refine q_icc2 (z := 4) rfl rfl rfl rfl rfl ?_
              refine q_goto rfl ?_
              refine q_iload_n rfl rfl rfl ?_
              refine q_bipush rfl rfl ?_
              refine q_icge rfl rfl (fun c315 => absurd c315 (by decide)) (fun c315 => ?_)
              refine q_aload_n rfl rfl rfl ?_
              refine q_getf rfl rfl (by decide) (FW_46 S hW) rfl ?_
              refine q_bipush rfl rfl ?_
              refine q_iload_n rfl rfl rfl ?_
              refine q_imul rfl rfl (q_tn (z := 240) rfl ?_)
              refine q_iload_n rfl rfl rfl ?_
              refine q_iadd rfl rfl (q_tn (z := 244) rfl ?_)
              refine q_lconst rfl rfl ?_
              refine q_last rfl rfl (by decide) rfl (by decide) ?_
              refine q_icc2 (z := 5) rfl rfl rfl rfl rfl ?_
              refine q_goto rfl ?_
              refine q_iload_n rfl rfl rfl ?_
              refine q_bipush rfl rfl ?_
              refine q_icge rfl rfl (fun c316 => absurd c316 (by decide)) (fun c316 => ?_)
              refine q_aload_n rfl rfl rfl ?_
              refine q_getf rfl rfl (by decide) (FW_46 S hW) rfl ?_
              refine q_bipush rfl rfl ?_
              refine q_iload_n rfl rfl rfl ?_
              refine q_imul rfl rfl (q_tn (z := 240) rfl ?_)
              refine q_iload_n rfl rfl rfl ?_
              refine q_iadd rfl rfl (q_tn (z := 245) rfl ?_)
              refine q_lconst rfl rfl ?_
              refine q_last rfl rfl (by decide) rfl (by decide) ?_
              refine q_icc2 (z := 6) rfl rfl rfl rfl rfl ?_
              refine q_goto rfl ?_
              refine q_iload_n rfl rfl rfl ?_
              refine q_bipush rfl rfl ?_
              refine q_icge rfl rfl (fun c317 => absurd c317 (by decide)) (fun c317 => ?_)
              refine q_aload_n rfl rfl rfl ?_
              refine q_getf rfl rfl (by decide) (FW_46 S hW) rfl ?_
              refine q_bipush rfl rfl ?_
              refine q_iload_n rfl rfl rfl ?_
              refine q_imul rfl rfl (q_tn (z := 240) rfl ?_)
              refine q_iload_n rfl rfl rfl ?_
              refine q_iadd rfl rfl (q_tn (z := 246) rfl ?_)
              refine q_lconst rfl rfl ?_
              refine q_last rfl rfl (by decide) rfl (by decide) ?_
              refine q_icc2 (z := 7) rfl rfl rfl rfl rfl ?_
              refine q_goto rfl ?_
              refine q_iload_n rfl rfl rfl ?_
              refine q_bipush rfl rfl ?_
              refine q_icge rfl rfl (fun c318 => absurd c318 (by decide)) (fun c318 => ?_)
              refine q_aload_n rfl rfl rfl ?_
              refine q_getf rfl rfl (by decide) (FW_46 S hW) rfl ?_
              refine q_bipush rfl rfl ?_
              refine q_iload_n rfl rfl rfl ?_
              refine q_imul rfl rfl (q_tn (z := 240) rfl ?_)
              refine q_iload_n rfl rfl rfl ?_
              refine q_iadd rfl rfl (q_tn (z := 247) rfl ?_)
              refine q_lconst rfl rfl ?_
              refine q_last rfl rfl (by decide) rfl (by decide) ?_
              refine q_icc2 (z := 8) rfl rfl rfl rfl rfl ?_
              refine q_goto rfl ?_
              refine q_iload_n rfl rfl rfl ?_
              refine q_bipush rfl rfl ?_
              refine q_icge rfl rfl (fun c319 => absurd c319 (by decide)) (fun c319 => ?_)
              refine q_aload_n rfl rfl rfl ?_
              refine q_getf rfl rfl (by decide) (FW_46 S hW) rfl ?_
              refine q_bipush rfl rfl ?_
              refine q_iload_n rfl rfl rfl ?_
              refine q_imul rfl rfl (q_tn (z := 240) rfl ?_)
              refine q_iload_n rfl rfl rfl ?_
              refine q_iadd rfl rfl (q_tn (z := 248) rfl ?_)
              refine q_lconst rfl rfl ?_
              refine q_last rfl rfl (by decide) rfl (by decide) ?_
              refine q_icc2 (z := 9) rfl rfl rfl rfl rfl ?_
              refine q_goto rfl ?_
              refine q_iload_n rfl rfl rfl ?_
              refine q_bipush rfl rfl ?_
              refine q_icge rfl rfl (fun c320 => absurd c320 (by decide)) (fun c320 => ?_)
              refine q_aload_n rfl rfl rfl ?_
              refine q_getf rfl rfl (by decide) (FW_46 S hW) rfl ?_
              refine q_bipush rfl rfl ?_
              refine q_iload_n rfl rfl rfl ?_
              refine q_imul rfl rfl (q_tn (z := 240) rfl ?_)
              refine q_iload_n rfl rfl rfl ?_
              refine q_iadd rfl rfl (q_tn (z := 249) rfl ?_)
              refine q_lconst rfl rfl ?_
              refine q_last rfl rfl (by decide) rfl (by decide) ?_
              refine q_icc2 (z := 10) rfl rfl rfl rfl rfl ?_
              refine q_goto rfl ?_
              refine q_iload_n rfl rfl rfl ?_
              refine q_bipush rfl rfl ?_
              refine q_icge rfl rfl (fun c321 => absurd c321 (by decide)) (fun c321 => ?_)
              refine q_aload_n rfl rfl rfl ?_
              refine q_getf rfl rfl (by decide) (FW_46 S hW) rfl ?_
              refine q_bipush rfl rfl ?_
              refine q_iload_n rfl rfl rfl ?_
              refine q_imul rfl rfl (q_tn (z := 240) rfl ?_)
              refine q_iload_n rfl rfl rfl ?_
              refine q_iadd rfl rfl (q_tn (z := 250) rfl ?_)
              refine q_lconst rfl rfl ?_
              refine q_last rfl rfl (by decide) rfl (by decide) ?_
              refine q_icc2 (z := 11) rfl rfl rfl rfl rfl ?_
              refine q_goto rfl ?_
              refine q_iload_n rfl rfl rfl ?_
              refine q_bipush rfl rfl ?_
              refine q_icge rfl rfl (fun c322 => absurd c322 (by decide)) (fun c322 => ?_)
              refine q_aload_n rfl rfl rfl ?_
              refine q_getf rfl rfl (by decide) (FW_46 S hW) rfl ?_
              refine q_bipush rfl rfl ?_
              refine q_iload_n rfl rfl rfl ?_
              refine q_imul rfl rfl (q_tn (z := 240) rfl ?_)
              refine q_iload_n rfl rfl rfl ?_
              refine q_iadd rfl rfl (q_tn (z := 251) rfl ?_)
              refine q_lconst rfl rfl ?_
              refine q_last rfl rfl (by decide) rfl (by decide) ?_
              refine q_icc2 (z := 12) rfl rfl rfl rfl rfl ?_
              refine q_goto rfl ?_
              refine q_iload_n rfl rfl rfl ?_
              refine q_bipush rfl rfl ?_
              refine q_icge rfl rfl (fun c323 => absurd c323 (by decide)) (fun c323 => ?_)
              refine q_aload_n rfl rfl rfl ?_
              refine q_getf rfl rfl (by decide) (FW_46 S hW) rfl ?_
              refine q_bipush rfl rfl ?_
              refine q_iload_n rfl rfl rfl ?_
              refine q_imul rfl rfl (q_tn (z := 240) rfl ?_)
              refine q_iload_n rfl rfl rfl ?_
              refine q_iadd rfl rfl (q_tn (z := 252) rfl ?_)
              refine q_lconst rfl rfl ?_
              refine q_last rfl rfl (by decide) rfl (by decide) ?_
              refine q_icc2 (z := 13) rfl rfl rfl rfl rfl ?_
              refine q_goto rfl ?_
              refine q_iload_n rfl rfl rfl ?_
              refine q_bipush rfl rfl ?_
              refine q_icge rfl rfl (fun c324 => absurd c324 (by decide)) (fun c324 => ?_)
              refine q_aload_n rfl rfl rfl ?_
              refine q_getf rfl rfl (by decide) (FW_46 S hW) rfl ?_
              refine q_bipush rfl rfl ?_
              refine q_iload_n rfl rfl rfl ?_
              refine q_imul rfl rfl (q_tn (z := 240) rfl ?_)
              refine q_iload_n rfl rfl rfl ?_
              refine q_iadd rfl rfl (q_tn (z := 253) rfl ?_)
              refine q_lconst rfl rfl ?_
              refine q_last rfl rfl (by decide) rfl (by decide) ?_
              refine q_icc2 (z := 14) rfl rfl rfl rfl rfl ?_
              refine q_goto rfl ?_
              refine q_iload_n rfl rfl rfl ?_
              refine q_bipush rfl rfl ?_
              refine q_icge rfl rfl (fun c325 => absurd c325 (by decide)) (fun c325 => ?_)
              refine q_aload_n rfl rfl rfl ?_
              refine q_getf rfl rfl (by decide) (FW_46 S hW) rfl ?_
              refine q_bipush rfl rfl ?_
              refine q_iload_n rfl rfl rfl ?_
              refine q_imul rfl rfl (q_tn (z := 240) rfl ?_)
              refine q_iload_n rfl rfl rfl ?_
              refine q_iadd rfl rfl (q_tn (z := 254) rfl ?_)
              refine q_lconst rfl rfl ?_
              refine q_last rfl rfl (by decide) rfl (by decide) ?_
              refine q_icc2 (z := 15) rfl rfl rfl rfl rfl ?_
              refine q_goto rfl ?_
              refine q_iload_n rfl rfl rfl ?_
              refine q_bipush rfl rfl ?_
              refine q_icge rfl rfl (fun c326 => absurd c326 (by decide)) (fun c326 => ?_)
              refine q_aload_n rfl rfl rfl ?_
              refine q_getf rfl rfl (by decide) (FW_46 S hW) rfl ?_
              refine q_bipush rfl rfl ?_
              refine q_iload_n rfl rfl rfl ?_
              refine q_imul rfl rfl (q_tn (z := 240) rfl ?_)
              refine q_iload_n rfl rfl rfl ?_
              refine q_iadd rfl rfl (q_tn (z := 255) rfl ?_)
              refine q_lconst rfl rfl ?_
              refine q_last rfl rfl (by decide) rfl (by decide) ?_
              refine q_icc2 (z := 16) rfl rfl rfl rfl rfl ?_
              refine q_goto rfl ?_
              refine q_iload_n rfl rfl rfl ?_
              refine q_bipush rfl rfl ?_
              refine q_icge rfl rfl (fun c327 => absurd c327 (by decide)) (fun c327 => ?_)
              refine q_aload_n rfl rfl rfl ?_
              refine q_getf rfl rfl (by decide) (FW_46 S hW) rfl ?_
              refine q_bipush rfl rfl ?_
              refine q_iload_n rfl rfl rfl ?_
              refine q_imul rfl rfl (q_tn (z := 240) rfl ?_)
              refine q_iload_n rfl rfl rfl ?_
              refine q_iadd rfl rfl (q_tn (z := 256) rfl ?_)
              refine q_lconst rfl rfl ?_
              refine q_last rfl rfl (by decide) rfl (by decide) ?_
              refine q_icc2 (z := 17) rfl rfl rfl rfl rfl ?_
              refine q_goto rfl ?_
              refine q_iload_n rfl rfl rfl ?_
              refine q_bipush rfl rfl ?_
              refine q_icge rfl rfl (fun c328 => absurd c328 (by decide)) (fun c328 => ?_)
              refine q_aload_n rfl rfl rfl ?_
              refine q_getf rfl rfl (by decide) (FW_46 S hW) rfl ?_
              refine q_bipush rfl rfl ?_
              refine q_iload_n rfl rfl rfl ?_
              refine q_imul rfl rfl (q_tn (z := 240) rfl ?_)
              refine q_iload_n rfl rfl rfl ?_
              refine q_iadd rfl rfl (q_tn (z := 257) rfl ?_)
              refine q_lconst rfl rfl ?_
              refine q_last rfl rfl (by decide) rfl (by decide) ?_
              refine q_icc2 (z := 18) rfl rfl rfl rfl rfl ?_
              refine q_goto rfl ?_
              refine q_iload_n rfl rfl rfl ?_
              refine q_bipush rfl rfl ?_
              refine q_icge rfl rfl (fun c329 => absurd c329 (by decide)) (fun c329 => ?_)
              refine q_aload_n rfl rfl rfl ?_
              refine q_getf rfl rfl (by decide) (FW_46 S hW) rfl ?_
              refine q_bipush rfl rfl ?_
              refine q_iload_n rfl rfl rfl ?_
              refine q_imul rfl rfl (q_tn (z := 240) rfl ?_)
              refine q_iload_n rfl rfl rfl ?_
              refine q_iadd rfl rfl (q_tn (z := 258) rfl ?_)
              refine q_lconst rfl rfl ?_
              refine q_last rfl rfl (by decide) rfl (by decide) ?_
              refine q_icc2 (z := 19) rfl rfl rfl rfl rfl ?_
              refine q_goto rfl ?_
              refine q_iload_n rfl rfl rfl ?_
              refine q_bipush rfl rfl ?_
              refine q_icge rfl rfl (fun c330 => absurd c330 (by decide)) (fun c330 => ?_)
              refine q_aload_n rfl rfl rfl ?_
              refine q_getf rfl rfl (by decide) (FW_46 S hW) rfl ?_
              refine q_bipush rfl rfl ?_
              refine q_iload_n rfl rfl rfl ?_
              refine q_imul rfl rfl (q_tn (z := 240) rfl ?_)
              refine q_iload_n rfl rfl rfl ?_
              refine q_iadd rfl rfl (q_tn (z := 259) rfl ?_)
              refine q_lconst rfl rfl ?_
              refine q_last rfl rfl (by decide) rfl (by decide) ?_
              refine q_icc2 (z := 20) rfl rfl rfl rfl rfl ?_
              refine q_goto rfl ?_
              refine q_iload_n rfl rfl rfl ?_
              refine q_bipush rfl rfl ?_
              refine q_icge rfl rfl (fun c331 => absurd c331 (by decide)) (fun c331 => ?_)
              refine q_aload_n rfl rfl rfl ?_
              refine q_getf rfl rfl (by decide) (FW_46 S hW) rfl ?_
              refine q_bipush rfl rfl ?_
              refine q_iload_n rfl rfl rfl ?_
              refine q_imul rfl rfl (q_tn (z := 240) rfl ?_)
              refine q_iload_n rfl rfl rfl ?_
              refine q_iadd rfl rfl (q_tn (z := 260) rfl ?_)
              refine q_lconst rfl rfl ?_
              refine q_last rfl rfl (by decide) rfl (by decide) ?_
              refine q_icc2 (z := 21) rfl rfl rfl rfl rfl ?_
              refine q_goto rfl ?_
              refine q_iload_n rfl rfl rfl ?_
              refine q_bipush rfl rfl ?_
              refine q_icge rfl rfl (fun c332 => absurd c332 (by decide)) (fun c332 => ?_)
              refine q_aload_n rfl rfl rfl ?_
              refine q_getf rfl rfl (by decide) (FW_46 S hW) rfl ?_
              refine q_bipush rfl rfl ?_
              refine q_iload_n rfl rfl rfl ?_
              refine q_imul rfl rfl (q_tn (z := 240) rfl ?_)
              refine q_iload_n rfl rfl rfl ?_
              refine q_iadd rfl rfl (q_tn (z := 261) rfl ?_)
              refine q_lconst rfl rfl ?_
              refine q_last rfl rfl (by decide) rfl (by decide) ?_
              refine q_icc2 (z := 22) rfl rfl rfl rfl rfl ?_
              refine q_goto rfl ?_
              refine q_iload_n rfl rfl rfl ?_
              refine q_bipush rfl rfl ?_
              refine q_icge rfl rfl (fun c333 => absurd c333 (by decide)) (fun c333 => ?_)
              refine q_aload_n rfl rfl rfl ?_
              refine q_getf rfl rfl (by decide) (FW_46 S hW) rfl ?_
              refine q_bipush rfl rfl ?_
              refine q_iload_n rfl rfl rfl ?_
              refine q_imul rfl rfl (q_tn (z := 240) rfl ?_)
              refine q_iload_n rfl rfl rfl ?_
              refine q_iadd rfl rfl (q_tn (z := 262) rfl ?_)
              refine q_lconst rfl rfl ?_
              refine q_last rfl rfl (by decide) rfl (by decide) ?_
              refine q_icc2 (z := 23) rfl rfl rfl rfl rfl ?_
              refine q_goto rfl ?_
              refine q_iload_n rfl rfl rfl ?_
              refine q_bipush rfl rfl ?_
              refine q_icge rfl rfl (fun c334 => absurd c334 (by decide)) (fun c334 => ?_)
              refine q_aload_n rfl rfl rfl ?_
              refine q_getf rfl rfl (by decide) (FW_46 S hW) rfl ?_
              refine q_bipush rfl rfl ?_
              refine q_iload_n rfl rfl rfl ?_
              refine q_imul rfl rfl (q_tn (z := 240) rfl ?_)
              refine q_iload_n rfl rfl rfl ?_
              refine q_iadd rfl rfl (q_tn (z := 263) rfl ?_)
              refine q_lconst rfl rfl ?_
              refine q_last rfl rfl (by decide) rfl (by decide) ?_
              refine q_icc2 (z := 24) rfl rfl rfl rfl rfl ?_
              refine q_goto rfl ?_
              refine q_iload_n rfl rfl rfl ?_
              refine q_bipush rfl rfl ?_
              refine q_icge rfl rfl (fun c335 => absurd c335 (by decide)) (fun c335 => ?_)
              refine q_aload_n rfl rfl rfl ?_
              refine q_getf rfl rfl (by decide) (FW_46 S hW) rfl ?_
              refine q_bipush rfl rfl ?_
              refine q_iload_n rfl rfl rfl ?_
              refine q_imul rfl rfl (q_tn (z := 240) rfl ?_)
              refine q_iload_n rfl rfl rfl ?_
              refine q_iadd rfl rfl (q_tn (z := 264) rfl ?_)
              refine q_lconst rfl rfl ?_
              refine q_last rfl rfl (by decide) rfl (by decide) ?_
              refine q_icc2 (z := 25) rfl rfl rfl rfl rfl ?_
              refine q_goto rfl ?_
              refine q_iload_n rfl rfl rfl ?_
              refine q_bipush rfl rfl ?_
              refine q_icge rfl rfl (fun c336 => absurd c336 (by decide)) (fun c336 => ?_)
              refine q_aload_n rfl rfl rfl ?_
              refine q_getf rfl rfl (by decide) (FW_46 S hW) rfl ?_
              refine q_bipush rfl rfl ?_
              refine q_iload_n rfl rfl rfl ?_
              refine q_imul rfl rfl (q_tn (z := 240) rfl ?_)
              refine q_iload_n rfl rfl rfl ?_
              refine q_iadd rfl rfl (q_tn (z := 265) rfl ?_)
              refine q_lconst rfl rfl ?_
              refine q_last rfl rfl (by decide) rfl (by decide) ?_
              refine q_icc2 (z := 26) rfl rfl rfl rfl rfl ?_
              refine q_goto rfl ?_
              refine q_iload_n rfl rfl rfl ?_
              refine q_bipush rfl rfl ?_
              refine q_icge rfl rfl (fun c337 => absurd c337 (by decide)) (fun c337 => ?_)
              refine q_aload_n rfl rfl rfl ?_
              refine q_getf rfl rfl (by decide) (FW_46 S hW) rfl ?_
              refine q_bipush rfl rfl ?_
              refine q_iload_n rfl rfl rfl ?_
              refine q_imul rfl rfl (q_tn (z := 240) rfl ?_)
              refine q_iload_n rfl rfl rfl ?_
              refine q_iadd rfl rfl (q_tn (z := 266) rfl ?_)
              refine q_lconst rfl rfl ?_
              refine q_last rfl rfl (by decide) rfl (by decide) ?_
              refine q_icc2 (z := 27) rfl rfl rfl rfl rfl ?_
              refine q_goto rfl ?_
              refine q_iload_n rfl rfl rfl ?_
              refine q_bipush rfl rfl ?_
              refine q_icge rfl rfl (fun c338 => absurd c338 (by decide)) (fun c338 => ?_)
              refine q_aload_n rfl rfl rfl ?_
              refine q_getf rfl rfl (by decide) (FW_46 S hW) rfl ?_
              refine q_bipush rfl rfl ?_
              refine q_iload_n rfl rfl rfl ?_
              refine q_imul rfl rfl (q_tn (z := 240) rfl ?_)
              refine q_iload_n rfl rfl rfl ?_
              refine q_iadd rfl rfl (q_tn (z := 267) rfl ?_)
              refine q_lconst rfl rfl ?_
              refine q_last rfl rfl (by decide) rfl (by decide) ?_
              refine q_icc2 (z := 28) rfl rfl rfl rfl rfl ?_
              refine q_goto rfl ?_
              refine q_iload_n rfl rfl rfl ?_
              refine q_bipush rfl rfl ?_
              refine q_icge rfl rfl (fun c339 => absurd c339 (by decide)) (fun c339 => ?_)
              refine q_aload_n rfl rfl rfl ?_
              refine q_getf rfl rfl (by decide) (FW_46 S hW) rfl ?_
              refine q_bipush rfl rfl ?_
              refine q_iload_n rfl rfl rfl ?_
              refine q_imul rfl rfl (q_tn (z := 240) rfl ?_)
              refine q_iload_n rfl rfl rfl ?_
              refine q_iadd rfl rfl (q_tn (z := 268) rfl ?_)
              refine q_lconst rfl rfl ?_
              refine q_last rfl rfl (by decide) rfl (by decide) ?_
              refine q_icc2 (z := 29) rfl rfl rfl rfl rfl ?_
              refine q_goto rfl ?_
              refine q_iload_n rfl rfl rfl ?_
              refine q_bipush rfl rfl ?_
              refine q_icge rfl rfl (fun c340 => absurd c340 (by decide)) (fun c340 => ?_)
              refine q_aload_n rfl rfl rfl ?_
              refine q_getf rfl rfl (by decide) (FW_46 S hW) rfl ?_
              refine q_bipush rfl rfl ?_
              refine q_iload_n rfl rfl rfl ?_
              refine q_imul rfl rfl (q_tn (z := 240) rfl ?_)
              refine q_iload_n rfl rfl rfl ?_
              refine q_iadd rfl rfl (q_tn (z := 269) rfl ?_)
              refine q_lconst rfl rfl ?_
              refine q_last rfl rfl (by decide) rfl (by decide) ?_
              refine q_icc2 (z := 30) rfl rfl rfl rfl rfl ?_
              refine q_goto rfl ?_
              refine q_iload_n rfl rfl rfl ?_
              refine q_bipush rfl rfl ?_
              refine q_icge rfl rfl (fun c341 => absurd c341 (by decide)) (fun c341 => ?_)
              refine q_aload_n rfl rfl rfl ?_
              refine q_getf rfl rfl (by decide) (FW_46 S hW) rfl ?_
              refine q_bipush rfl rfl ?_
              refine q_iload_n rfl rfl rfl ?_
              refine q_imul rfl rfl (q_tn (z := 240) rfl ?_)
              refine q_iload_n rfl rfl rfl ?_
              refine q_iadd rfl rfl (q_tn (z := 270) rfl ?_)
              refine q_lconst rfl rfl ?_
              refine q_last rfl rfl (by decide) rfl (by decide) ?_
              refine q_icc2 (z := 31) rfl rfl rfl rfl rfl ?_
              refine q_goto rfl ?_
              refine q_iload_n rfl rfl rfl ?_
              refine q_bipush rfl rfl ?_
              refine q_icge rfl rfl (fun c342 => absurd c342 (by decide)) (fun c342 => ?_)
              refine q_aload_n rfl rfl rfl ?_
              refine q_getf rfl rfl (by decide) (FW_46 S hW) rfl ?_
              refine q_bipush rfl rfl ?_
              refine q_iload_n rfl rfl rfl ?_
              refine q_imul rfl rfl (q_tn (z := 240) rfl ?_)
              refine q_iload_n rfl rfl rfl ?_
              refine q_iadd rfl rfl (q_tn (z := 271) rfl ?_)
              refine q_lconst rfl rfl ?_
              refine q_last rfl rfl (by decide) rfl (by decide) ?_
              refine q_icc2 (z := 32) rfl rfl rfl rfl rfl ?_
              refine q_goto rfl ?_
              refine q_iload_n rfl rfl rfl ?_
              refine q_bipush rfl rfl ?_
              refine q_icge rfl rfl (fun c343 => absurd c343 (by decide)) (fun c343 => ?_)
              refine q_aload_n rfl rfl rfl ?_
              refine q_getf rfl rfl (by decide) (FW_46 S hW) rfl ?_
              refine q_bipush rfl rfl ?_
              refine q_iload_n rfl rfl rfl ?_
              refine q_imul rfl rfl (q_tn (z := 240) rfl ?_)
              refine q_iload_n rfl rfl rfl ?_
              refine q_iadd rfl rfl (q_tn (z := 272) rfl ?_)
              refine q_lconst rfl rfl ?_
              refine q_last rfl rfl (by decide) rfl (by decide) ?_
              refine q_icc2 (z := 33) rfl rfl rfl rfl rfl ?_
              refine q_goto rfl ?_
              refine q_iload_n rfl rfl rfl ?_
              refine q_bipush rfl rfl ?_
              refine q_icge rfl rfl (fun c344 => absurd c344 (by decide)) (fun c344 => ?_)
              refine q_aload_n rfl rfl rfl ?_
              refine q_getf rfl rfl (by decide) (FW_46 S hW) rfl ?_
              refine q_bipush rfl rfl ?_
              refine q_iload_n rfl rfl rfl ?_
              refine q_imul rfl rfl (q_tn (z := 240) rfl ?_)
              refine q_iload_n rfl rfl rfl ?_
              refine q_iadd rfl rfl (q_tn (z := 273) rfl ?_)
              refine q_lconst rfl rfl ?_
              refine q_last rfl rfl (by decide) rfl (by decide) ?_
              refine q_icc2 (z := 34) rfl rfl rfl rfl rfl ?_
              refine q_goto rfl ?_
              refine q_iload_n rfl rfl rfl ?_
              refine q_bipush rfl rfl ?_
              refine q_icge rfl rfl (fun c345 => absurd c345 (by decide)) (fun c345 => ?_)
              refine q_aload_n rfl rfl rfl ?_
              refine q_getf rfl rfl (by decide) (FW_46 S hW) rfl ?_
              refine q_bipush rfl rfl ?_
              refine q_iload_n rfl rfl rfl ?_
              refine q_imul rfl rfl (q_tn (z := 240) rfl ?_)
              refine q_iload_n rfl rfl rfl ?_
              refine q_iadd rfl rfl (q_tn (z := 274) rfl ?_)
              refine q_lconst rfl rfl ?_
              refine q_last rfl rfl (by decide) rfl (by decide) ?_
              refine q_icc2 (z := 35) rfl rfl rfl rfl rfl ?_
              refine q_goto rfl ?_
              refine q_iload_n rfl rfl rfl ?_
              refine q_bipush rfl rfl ?_
              refine q_icge rfl rfl (fun c346 => absurd c346 (by decide)) (fun c346 => ?_)
              refine q_aload_n rfl rfl rfl ?_
              refine q_getf rfl rfl (by decide) (FW_46 S hW) rfl ?_
              refine q_bipush rfl rfl ?_
              refine q_iload_n rfl rfl rfl ?_
              refine q_imul rfl rfl (q_tn (z := 240) rfl ?_)
              refine q_iload_n rfl rfl rfl ?_
              refine q_iadd rfl rfl (q_tn (z := 275) rfl ?_)
              refine q_lconst rfl rfl ?_
              refine q_last rfl rfl (by decide) rfl (by decide) ?_
              refine q_icc2 (z := 36) rfl rfl rfl rfl rfl ?_
              refine q_goto rfl ?_
              refine q_iload_n rfl rfl rfl ?_
              refine q_bipush rfl rfl ?_
              refine q_icge rfl rfl (fun c347 => absurd c347 (by decide)) (fun c347 => ?_)
              refine q_aload_n rfl rfl rfl ?_
              refine q_getf rfl rfl (by decide) (FW_46 S hW) rfl ?_
              refine q_bipush rfl rfl ?_
              refine q_iload_n rfl rfl rfl ?_
              refine q_imul rfl rfl (q_tn (z := 240) rfl ?_)
              refine q_iload_n rfl rfl rfl ?_
              refine q_iadd rfl rfl (q_tn (z := 276) rfl ?_)
              refine q_lconst rfl rfl ?_
              refine q_last rfl rfl (by decide) rfl (by decide) ?_
              refine q_icc2 (z := 37) rfl rfl rfl rfl rfl ?_
              refine q_goto rfl ?_
              refine q_iload_n rfl rfl rfl ?_
              refine q_bipush rfl rfl ?_
              refine q_icge rfl rfl (fun c348 => absurd c348 (by decide)) (fun c348 => ?_)
              refine q_aload_n rfl rfl rfl ?_
              refine q_getf rfl rfl (by decide) (FW_46 S hW) rfl ?_
              refine q_bipush rfl rfl ?_
              refine q_iload_n rfl rfl rfl ?_
              refine q_imul rfl rfl (q_tn (z := 240) rfl ?_)
              refine q_iload_n rfl rfl rfl ?_
              refine q_iadd rfl rfl (q_tn (z := 277) rfl ?_)
              refine q_lconst rfl rfl ?_
              refine q_last rfl rfl (by decide) rfl (by decide) ?_
              refine q_icc2 (z := 38) rfl rfl rfl rfl rfl ?_
              refine q_goto rfl ?_
              refine q_iload_n rfl rfl rfl ?_
              refine q_bipush rfl rfl ?_
              refine q_icge rfl rfl (fun c349 => absurd c349 (by decide)) (fun c349 => ?_)
              refine q_aload_n rfl rfl rfl ?_
              refine q_getf rfl rfl (by decide) (FW_46 S hW) rfl ?_
              refine q_bipush rfl rfl ?_
              refine q_iload_n rfl rfl rfl ?_
              refine q_imul rfl rfl (q_tn (z := 240) rfl ?_)
              refine q_iload_n rfl rfl rfl ?_
              refine q_iadd rfl rfl (q_tn (z := 278) rfl ?_)
              refine q_lconst rfl rfl ?_
              refine q_last rfl rfl (by decide) rfl (by decide) ?_
              refine q_icc2 (z := 39) rfl rfl rfl rfl rfl ?_
              refine q_goto rfl ?_
              refine q_iload_n rfl rfl rfl ?_
              refine q_bipush rfl rfl ?_
              refine q_icge rfl rfl (fun c350 => absurd c350 (by decide)) (fun c350 => ?_)
              refine q_aload_n rfl rfl rfl ?_
              refine q_getf rfl rfl (by decide) (FW_46 S hW) rfl ?_
              refine q_bipush rfl rfl ?_
              refine q_iload_n rfl rfl rfl ?_
              refine q_imul rfl rfl (q_tn (z := 240) rfl ?_)
              refine q_iload_n rfl rfl rfl ?_
              refine q_iadd rfl rfl (q_tn (z := 279) rfl ?_)
              refine q_lconst rfl rfl ?_
              refine q_last rfl rfl (by decide) rfl (by decide) ?_
              refine q_icc2 (z := 40) rfl rfl rfl rfl rfl ?_
              refine q_goto rfl ?_
              refine q_iload_n rfl rfl rfl ?_
              refine q_bipush rfl rfl ?_
              refine q_icge rfl rfl (fun c351 => absurd c351 (by decide)) (fun c351 => ?_)
              refine q_aload_n rfl rfl rfl ?_
              refine q_getf rfl rfl (by decide) (FW_46 S hW) rfl ?_
              refine q_bipush rfl rfl ?_
              refine q_iload_n rfl rfl rfl ?_
              refine q_imul rfl rfl (q_tn (z := 240) rfl ?_)
              refine q_iload_n rfl rfl rfl ?_
              refine q_iadd rfl rfl (q_tn (z := 280) rfl ?_)
              refine q_lconst rfl rfl ?_
              refine q_last rfl rfl (by decide) rfl (by decide) ?_
              refine q_icc2 (z := 41) rfl rfl rfl rfl rfl ?_
              refine q_goto rfl ?_
              refine q_iload_n rfl rfl rfl ?_
              refine q_bipush rfl rfl ?_
              refine q_icge rfl rfl (fun c352 => absurd c352 (by decide)) (fun c352 => ?_)
              refine q_aload_n rfl rfl rfl ?_
              refine q_getf rfl rfl (by decide) (FW_46 S hW) rfl ?_
              refine q_bipush rfl rfl ?_
              refine q_iload_n rfl rfl rfl ?_
              refine q_imul rfl rfl (q_tn (z := 240) rfl ?_)
              refine q_iload_n rfl rfl rfl ?_
              refine q_iadd rfl rfl (q_tn (z := 281) rfl ?_)
              refine q_lconst rfl rfl ?_
              refine q_last rfl rfl (by decide) rfl (by decide) ?_
              refine q_icc2 (z := 42) rfl rfl rfl rfl rfl ?_
              refine q_goto rfl ?_
              refine q_iload_n rfl rfl rfl ?_
              refine q_bipush rfl rfl ?_
              refine q_icge rfl rfl (fun c353 => absurd c353 (by decide)) (fun c353 => ?_)
              refine q_aload_n rfl rfl rfl ?_
              refine q_getf rfl rfl (by decide) (FW_46 S hW) rfl ?_
              refine q_bipush rfl rfl ?_
              refine q_iload_n rfl rfl rfl ?_
              refine q_imul rfl rfl (q_tn (z := 240) rfl ?_)
              refine q_iload_n rfl rfl rfl ?_
              refine q_iadd rfl rfl (q_tn (z := 282) rfl ?_)
              refine q_lconst rfl rfl ?_
              refine q_last rfl rfl (by decide) rfl (by decide) ?_
              refine q_icc2 (z := 43) rfl rfl rfl rfl rfl ?_
              refine q_goto rfl ?_
              refine q_iload_n rfl rfl rfl ?_
              refine q_bipush rfl rfl ?_
              refine q_icge rfl rfl (fun c354 => absurd c354 (by decide)) (fun c354 => ?_)
              refine q_aload_n rfl rfl rfl ?_
              refine q_getf rfl rfl (by decide) (FW_46 S hW) rfl ?_
              refine q_bipush rfl rfl ?_
              refine q_iload_n rfl rfl rfl ?_
              refine q_imul rfl rfl (q_tn (z := 240) rfl ?_)
              refine q_iload_n rfl rfl rfl ?_
              refine q_iadd rfl rfl (q_tn (z := 283) rfl ?_)
              refine q_lconst rfl rfl ?_
              refine q_last rfl rfl (by decide) rfl (by decide) ?_
              refine q_icc2 (z := 44) rfl rfl rfl rfl rfl ?_
              refine q_goto rfl ?_
              refine q_iload_n rfl rfl rfl ?_
              refine q_bipush rfl rfl ?_
              refine q_icge rfl rfl (fun c355 => absurd c355 (by decide)) (fun c355 => ?_)
              refine q_aload_n rfl rfl rfl ?_
              refine q_getf rfl rfl (by decide) (FW_46 S hW) rfl ?_
              refine q_bipush rfl rfl ?_
              refine q_iload_n rfl rfl rfl ?_
              refine q_imul rfl rfl (q_tn (z := 240) rfl ?_)
              refine q_iload_n rfl rfl rfl ?_
              refine q_iadd rfl rfl (q_tn (z := 284) rfl ?_)
              refine q_lconst rfl rfl ?_
              refine q_last rfl rfl (by decide) rfl (by decide) ?_
              refine q_icc2 (z := 45) rfl rfl rfl rfl rfl ?_
              refine q_goto rfl ?_
              refine q_iload_n rfl rfl rfl ?_
              refine q_bipush rfl rfl ?_
              refine q_icge rfl rfl (fun c356 => absurd c356 (by decide)) (fun c356 => ?_)
              refine q_aload_n rfl rfl rfl ?_
              refine q_getf rfl rfl (by decide) (FW_46 S hW) rfl ?_
              refine q_bipush rfl rfl ?_
              refine q_iload_n rfl rfl rfl ?_
              refine q_imul rfl rfl (q_tn (z := 240) rfl ?_)
              refine q_iload_n rfl rfl rfl ?_
              refine q_iadd rfl rfl (q_tn (z := 285) rfl ?_)
              refine q_lconst rfl rfl ?_
              refine q_last rfl rfl (by decide) rfl (by decide) ?_
              refine q_icc2 (z := 46) rfl rfl rfl rfl rfl ?_
              refine q_goto rfl ?_
              refine q_iload_n rfl rfl rfl ?_
              refine q_bipush rfl rfl ?_
              refine q_icge rfl rfl (fun c357 => absurd c357 (by decide)) (fun c357 => ?_)
              refine q_aload_n rfl rfl rfl ?_
              refine q_getf rfl rfl (by decide) (FW_46 S hW) rfl ?_
              refine q_bipush rfl rfl ?_
              refine q_iload_n rfl rfl rfl ?_
              refine q_imul rfl rfl (q_tn (z := 240) rfl ?_)
              refine q_iload_n rfl rfl rfl ?_
              refine q_iadd rfl rfl (q_tn (z := 286) rfl ?_)
              refine q_lconst rfl rfl ?_
              refine q_last rfl rfl (by decide) rfl (by decide) ?_
              refine q_icc2 (z := 47) rfl rfl rfl rfl rfl ?_
              refine q_goto rfl ?_
              refine q_iload_n rfl rfl rfl ?_
              refine q_bipush rfl rfl ?_
              refine q_icge rfl rfl (fun c358 => absurd c358 (by decide)) (fun c358 => ?_)
              refine q_aload_n rfl rfl rfl ?_
              refine q_getf rfl rfl (by decide) (FW_46 S hW) rfl ?_
              refine q_bipush rfl rfl ?_
              refine q_iload_n rfl rfl rfl ?_
              refine q_imul rfl rfl (q_tn (z := 240) rfl ?_)
              refine q_iload_n rfl rfl rfl ?_
              refine q_iadd rfl rfl (q_tn (z := 287) rfl ?_)
              refine q_lconst rfl rfl ?_
              refine q_last rfl rfl (by decide) rfl (by decide) ?_
              refine q_icc2 (z := 48) rfl rfl rfl rfl rfl ?_
              refine q_goto rfl ?_
              refine q_iload_n rfl rfl rfl ?_
              refine q_bipush rfl rfl ?_
              refine q_icge rfl rfl (fun c359 => absurd c359 (by decide)) (fun c359 => ?_)
              refine q_aload_n rfl rfl rfl ?_
              refine q_getf rfl rfl (by decide) (FW_46 S hW) rfl ?_
              refine q_bipush rfl rfl ?_
              refine q_iload_n rfl rfl rfl ?_
              refine q_imul rfl rfl (q_tn (z := 240) rfl ?_)
              refine q_iload_n rfl rfl rfl ?_
              refine q_iadd rfl rfl (q_tn (z := 288) rfl ?_)
              refine q_lconst rfl rfl ?_
              refine q_last rfl rfl (by decide) rfl (by decide) ?_
              refine q_icc2 (z := 49) rfl rfl rfl rfl rfl ?_
              refine q_goto rfl ?_
              refine q_iload_n rfl rfl rfl ?_
              refine q_bipush rfl rfl ?_
              refine q_icge rfl rfl (fun c360 => absurd c360 (by decide)) (fun c360 => ?_)
              refine q_aload_n rfl rfl rfl ?_
              refine q_getf rfl rfl (by decide) (FW_46 S hW) rfl ?_
              refine q_bipush rfl rfl ?_
              refine q_iload_n rfl rfl rfl ?_
              refine q_imul rfl rfl (q_tn (z := 240) rfl ?_)
              refine q_iload_n rfl rfl rfl ?_
              refine q_iadd rfl rfl (q_tn (z := 289) rfl ?_)
              refine q_lconst rfl rfl ?_
              refine q_last rfl rfl (by decide) rfl (by decide) ?_
              refine q_icc2 (z := 50) rfl rfl rfl rfl rfl ?_
              refine q_goto rfl ?_
              refine q_iload_n rfl rfl rfl ?_
              refine q_bipush rfl rfl ?_
              refine q_icge rfl rfl (fun c361 => absurd c361 (by decide)) (fun c361 => ?_)
              refine q_aload_n rfl rfl rfl ?_
              refine q_getf rfl rfl (by decide) (FW_46 S hW) rfl ?_
              refine q_bipush rfl rfl ?_
              refine q_iload_n rfl rfl rfl ?_
              refine q_imul rfl rfl (q_tn (z := 240) rfl ?_)
              refine q_iload_n rfl rfl rfl ?_
              refine q_iadd rfl rfl (q_tn (z := 290) rfl ?_)
              refine q_lconst rfl rfl ?_
              refine q_last rfl rfl (by decide) rfl (by decide) ?_
              refine q_icc2 (z := 51) rfl rfl rfl rfl rfl ?_
              refine q_goto rfl ?_
              refine q_iload_n rfl rfl rfl ?_
              refine q_bipush rfl rfl ?_
              refine q_icge rfl rfl (fun c362 => absurd c362 (by decide)) (fun c362 => ?_)
              refine q_aload_n rfl rfl rfl ?_
              refine q_getf rfl rfl (by decide) (FW_46 S hW) rfl ?_
              refine q_bipush rfl rfl ?_
              refine q_iload_n rfl rfl rfl ?_
              refine q_imul rfl rfl (q_tn (z := 240) rfl ?_)
              refine q_iload_n rfl rfl rfl ?_
              refine q_iadd rfl rfl (q_tn (z := 291) rfl ?_)
              refine q_lconst rfl rfl ?_
              refine q_last rfl rfl (by decide) rfl (by decide) ?_
              refine q_icc2 (z := 52) rfl rfl rfl rfl rfl ?_
              refine q_goto rfl ?_
              refine q_iload_n rfl rfl rfl ?_
              refine q_bipush rfl rfl ?_
              refine q_icge rfl rfl (fun c363 => absurd c363 (by decide)) (fun c363 => ?_)
              refine q_aload_n rfl rfl rfl ?_
              refine q_getf rfl rfl (by decide) (FW_46 S hW) rfl ?_
              refine q_bipush rfl rfl ?_
              refine q_iload_n rfl rfl rfl ?_
              refine q_imul rfl rfl (q_tn (z := 240) rfl ?_)
              refine q_iload_n rfl rfl rfl ?_
              refine q_iadd rfl rfl (q_tn (z := 292) rfl ?_)
              refine q_lconst rfl rfl ?_
              refine q_last rfl rfl (by decide) rfl (by decide) ?_
              refine q_icc2 (z := 53) rfl rfl rfl rfl rfl ?_
              refine q_goto rfl ?_
              refine q_iload_n rfl rfl rfl ?_
              refine q_bipush rfl rfl ?_
              refine q_icge rfl rfl (fun c364 => absurd c364 (by decide)) (fun c364 => ?_)
              refine q_aload_n rfl rfl rfl ?_
              refine q_getf rfl rfl (by decide) (FW_46 S hW) rfl ?_
              refine q_bipush rfl rfl ?_
              refine q_iload_n rfl rfl rfl ?_
              refine q_imul rfl rfl (q_tn (z := 240) rfl ?_)
              refine q_iload_n rfl rfl rfl ?_
              refine q_iadd rfl rfl (q_tn (z := 293) rfl ?_)
              refine q_lconst rfl rfl ?_
              refine q_last rfl rfl (by decide) rfl (by decide) ?_
              refine q_icc2 (z := 54) rfl rfl rfl rfl rfl ?_
              refine q_goto rfl ?_
              refine q_iload_n rfl rfl rfl ?_
              refine q_bipush rfl rfl ?_
              refine q_icge rfl rfl (fun c365 => absurd c365 (by decide)) (fun c365 => ?_)
              refine q_aload_n rfl rfl rfl ?_
              refine q_getf rfl rfl (by decide) (FW_46 S hW) rfl ?_
              refine q_bipush rfl rfl ?_
              refine q_iload_n rfl rfl rfl ?_
              refine q_imul rfl rfl (q_tn (z := 240) rfl ?_)
              refine q_iload_n rfl rfl rfl ?_
              refine q_iadd rfl rfl (q_tn (z := 294) rfl ?_)
              refine q_lconst rfl rfl ?_
              refine q_last rfl rfl (by decide) rfl (by decide) ?_
              refine q_icc2 (z := 55) rfl rfl rfl rfl rfl ?_
              refine q_goto rfl ?_
              refine q_iload_n rfl rfl rfl ?_
              refine q_bipush rfl rfl ?_
              refine q_icge rfl rfl (fun c366 => absurd c366 (by decide)) (fun c366 => ?_)
              refine q_aload_n rfl rfl rfl ?_
              refine q_getf rfl rfl (by decide) (FW_46 S hW) rfl ?_
              refine q_bipush rfl rfl ?_
              refine q_iload_n rfl rfl rfl ?_
              refine q_imul rfl rfl (q_tn (z := 240) rfl ?_)
              refine q_iload_n rfl rfl rfl ?_
              refine q_iadd rfl rfl (q_tn (z := 295) rfl ?_)
              refine q_lconst rfl rfl ?_
              refine q_last rfl rfl (by decide) rfl (by decide) ?_
              refine q_icc2 (z := 56) rfl rfl rfl rfl rfl ?_
              refine q_goto rfl ?_
              refine q_iload_n rfl rfl rfl ?_
              refine q_bipush rfl rfl ?_
              refine q_icge rfl rfl (fun c367 => absurd c367 (by decide)) (fun c367 => ?_)
              refine q_aload_n rfl rfl rfl ?_
              refine q_getf rfl rfl (by decide) (FW_46 S hW) rfl ?_
              refine q_bipush rfl rfl ?_
              refine q_iload_n rfl rfl rfl ?_
              refine q_imul rfl rfl (q_tn (z := 240) rfl ?_)
              refine q_iload_n rfl rfl rfl ?_
              refine q_iadd rfl rfl (q_tn (z := 296) rfl ?_)
              refine q_lconst rfl rfl ?_
              refine q_last rfl rfl (by decide) rfl (by decide) ?_
              refine q_icc2 (z := 57) rfl rfl rfl rfl rfl ?_
              refine q_goto rfl ?_
              refine q_iload_n rfl rfl rfl ?_
              refine q_bipush rfl rfl ?_
              refine q_icge rfl rfl (fun c368 => absurd c368 (by decide)) (fun c368 => ?_)
              refine q_aload_n rfl rfl rfl ?_
              refine q_getf rfl rfl (by decide) (FW_46 S hW) rfl ?_
              refine q_bipush rfl rfl ?_
              refine q_iload_n rfl rfl rfl ?_
              refine q_imul rfl rfl (q_tn (z := 240) rfl ?_)
              refine q_iload_n rfl rfl rfl ?_
              refine q_iadd rfl rfl (q_tn (z := 297) rfl ?_)
              refine q_lconst rfl rfl ?_
              refine q_last rfl rfl (by decide) rfl (by decide) ?_
              refine q_icc2 (z := 58) rfl rfl rfl rfl rfl ?_
              refine q_goto rfl ?_
              refine q_iload_n rfl rfl rfl ?_
              refine q_bipush rfl rfl ?_
              refine q_icge rfl rfl (fun c369 => absurd c369 (by decide)) (fun c369 => ?_)
              refine q_aload_n rfl rfl rfl ?_
              refine q_getf rfl rfl (by decide) (FW_46 S hW) rfl ?_
              refine q_bipush rfl rfl ?_
              refine q_iload_n rfl rfl rfl ?_
              refine q_imul rfl rfl (q_tn (z := 240) rfl ?_)
              refine q_iload_n rfl rfl rfl ?_
              refine q_iadd rfl rfl (q_tn (z := 298) rfl ?_)
              refine q_lconst rfl rfl ?_
              refine q_last rfl rfl (by decide) rfl (by decide) ?_
              refine q_icc2 (z := 59) rfl rfl rfl rfl rfl ?_
              refine q_goto rfl ?_
              refine q_iload_n rfl rfl rfl ?_
              refine q_bipush rfl rfl ?_
              refine q_icge rfl rfl (fun c370 => absurd c370 (by decide)) (fun c370 => ?_)
              refine q_aload_n rfl rfl rfl ?_
              refine q_getf rfl rfl (by decide) (FW_46 S hW) rfl ?_
              refine q_bipush rfl rfl ?_
              refine q_iload_n rfl rfl rfl ?_
              refine q_imul rfl rfl (q_tn (z := 240) rfl ?_)
              refine q_iload_n rfl rfl rfl ?_
              refine q_iadd rfl rfl (q_tn (z := 299) rfl ?_)
              refine q_lconst rfl rfl ?_
              refine q_last rfl rfl (by decide) rfl (by decide) ?_
              refine q_icc2 (z := 60) rfl rfl rfl rfl rfl ?_
              refine q_goto rfl ?_
              refine q_iload_n rfl rfl rfl ?_
              refine q_bipush rfl rfl ?_
              refine q_icge rfl rfl (fun c371 => ?_) (fun c371 => absurd (by decide) c371)
              refine q_ret rfl rfl ?_
              refine ⟨rfl, ?_⟩
              refine q_iconst rfl rfl ?_
              refine q_iret rfl rfl trivial ?_
              refine ⟨_, rfl, ?_⟩
              refine q_iceq rfl rfl (fun c372 => ?_) (fun c372 => absurd (by decide) c372)
              refine q_icc4 (z := 6) rfl rfl rfl rfl rfl ?_
              refine q_goto rfl ?_
              refine q_iload rfl rfl rfl ?_
              refine q_aload_nF rfl rfl rfl ?_
              refine q_alenX (x := 6) rfl rfl rfl ?_
              refine q_bipush rfl rfl ?_
              refine q_isub rfl rfl (q_tn (z := 0) rfl ?_)
              refine q_icgt rfl rfl (fun c373 => ?_) (fun c373 => absurd (by decide) c373)
              refine q_iconst rfl rfl ?_
              refine q_iret rfl rfl rfl ?_
              exact hK _ _
            · refine q_aast rfl rfl (by decide) (by decide) (FW_43 S hW) rfl rfl (by decide) ?_
              refine q_iconst rfl rfl ?_
              refine q_iret rfl rfl trivial ?_
              refine ⟨_, rfl, ?_⟩
              refine q_aload_n rfl rfl rfl ?_
              refine q_aload_nF rfl rfl rfl ?_
              refine q_iload rfl rfl rfl ?_
              refine q_iconst rfl rfl ?_
              refine q_iadd rfl rfl (q_tn (z := 1) rfl ?_)
              refine q_ialdX (x := 5) rfl rfl rfl hx1 ?_
              refine q_aload_nF rfl rfl rfl ?_
              refine q_iload rfl rfl rfl ?_
              refine q_iconst rfl rfl ?_
              refine q_iadd rfl rfl (q_tn (z := 2) rfl ?_)
              refine q_ialdX (x := 3) rfl rfl rfl hx2 ?_
              refine q_aload_nF rfl rfl rfl ?_
              refine q_iload rfl rfl rfl ?_
              refine q_iconst rfl rfl ?_
              refine q_iadd rfl rfl (q_tn (z := 3) rfl ?_)
              refine q_ialdX (x := x3) rfl rfl rfl hx3 ?_
              refine q_nV3 rfl rfl (Or.inl rfl) rfl rfl rfl (by decide) (FW_46 S hW) ⟨rfl, rfl⟩ rfl ?_
              change PQ _ _ _ mm_X12_make 0 [.ref 46, .int 5, .int 3, .int x3] [] _ _ 0 0 _
              refine q_aload_n rfl rfl rfl ?_
              refine q_iload_n rfl rfl rfl ?_
              refine q_nV1 rfl rfl (Or.inl rfl) rfl rfl rfl (by decide) (FW_46 S hW) ⟨rfl, rfl⟩ rfl ?_
              change PQ _ _ _ mm_X12_isShelf 0 [.ref 46, .int 5] [] _ _ 0 0 _
              refine q_aload_n rfl rfl rfl ?_
              refine q_iload_n rfl rfl rfl ?_
              refine q_iconst rfl rfl ?_
              refine q_bipush rfl rfl ?_
              refine q_nV3 rfl rfl (Or.inl rfl) rfl rfl rfl (by decide) (FW_46 S hW) ⟨rfl, rfl⟩ rfl ?_
              change PQ _ _ _ mm_X12_in 0 [.ref 46, .int 5, .int 0, .int 7] [] _ _ 0 0 _
              refine q_iload_n rfl rfl rfl ?_
              refine q_iload_n rfl rfl rfl ?_
              refine q_iclt rfl rfl (fun c374 => absurd c374 (by decide)) (fun c374 => ?_)
              refine q_iload_n rfl rfl rfl ?_
              refine q_iload_n rfl rfl rfl ?_
              refine q_icgt rfl rfl (fun c375 => absurd c375 (by decide)) (fun c375 => ?_)
              refine q_iconst rfl rfl ?_
              refine q_goto rfl ?_
              refine q_iret rfl rfl rfl ?_
              refine ⟨_, rfl, ?_⟩
              refine q_iret rfl rfl rfl ?_
              refine ⟨_, rfl, ?_⟩
              refine q_ifeq rfl rfl (fun c376 => absurd c376 (by decide)) (fun c376 => ?_)
              refine q_aload_n rfl rfl rfl ?_
              refine q_iload_n rfl rfl rfl ?_
              refine q_iconst rfl rfl ?_
              refine q_iconst rfl rfl ?_
              refine q_nV3 rfl rfl (Or.inl rfl) rfl rfl rfl (by decide) (FW_46 S hW) ⟨rfl, rfl⟩ rfl ?_
              change PQ _ _ _ mm_X12_in 0 [.ref 46, .int 3, .int 3, .int 4] [] _ _ 0 0 _
              refine q_iload_n rfl rfl rfl ?_
              refine q_iload_n rfl rfl rfl ?_
              refine q_iclt rfl rfl (fun c377 => absurd c377 (by decide)) (fun c377 => ?_)
              refine q_iload_n rfl rfl rfl ?_
              refine q_iload_n rfl rfl rfl ?_
              refine q_icgt rfl rfl (fun c378 => absurd c378 (by decide)) (fun c378 => ?_)
              refine q_iconst rfl rfl ?_
              refine q_goto rfl ?_
              refine q_iret rfl rfl rfl ?_
              refine ⟨_, rfl, ?_⟩
              refine q_ifeq rfl rfl (fun c379 => absurd c379 (by decide)) (fun c379 => ?_)
              refine q_iload_n rfl rfl rfl ?_
              refine q_bipush rfl rfl ?_
              refine q_icle rfl rfl (fun c380 => ?_) (fun c380 => absurd (i_le_t c16 rfl) c380)
              refine q_iload_n rfl rfl rfl ?_
              refine q_ifge rfl rfl (fun c381 => ?_) (fun c381 => absurd (i_ge_t c17 rfl) c381)
              refine q_aload_n rfl rfl rfl ?_
              refine q_getf rfl rfl (by decide) (FW_46 S hW) rfl ?_
              refine q_iload_n rfl rfl rfl ?_
              refine q_iload_n rfl rfl rfl ?_
              refine q_iast rfl rfl (by decide) (FW_75 S hW) (by decide) ?_
              refine q_aload_n rfl rfl rfl ?_
              refine q_getf rfl rfl (by decide) (FW_46 S hW) rfl ?_
              refine q_iload_n rfl rfl rfl ?_
              refine q_iload_n rfl rfl rfl ?_
              refine q_iast rfl rfl (by decide) (FW_78 S hW) (by decide) ?_
              refine q_aload_n rfl rfl rfl ?_
              refine q_iload_n rfl rfl rfl ?_
              refine q_nV1v rfl rfl (Or.inl rfl) rfl rfl rfl (by decide) (FW_46 S hW) ⟨rfl, rfl⟩ rfl ?_
              change PQ _ _ _ mm_X12_clear 0 [.ref 46, .int 5, pm_un] [] _ _ 0 0 _
              refine q_iconst rfl rfl ?_
              refine q_ist2n rfl rfl rfl rfl ?_
              refine q_iload_n rfl rfl rfl ?_
              refine q_bipush rfl rfl ?_
              refine q_icge rfl rfl (fun c382 => absurd c382 (by decide)) (fun c382 => ?_)
              refine q_aload_n rfl rfl rfl ?_
              refine q_getf rfl rfl (by decide) (FW_46 S hW) rfl ?_
              refine q_bipush rfl rfl ?_
              refine q_iload_n rfl rfl rfl ?_
              refine q_imul rfl rfl (q_tn (z := 300) rfl ?_)
              refine q_iload_n rfl rfl rfl ?_
              refine q_iadd rfl rfl (q_tn (z := 300) rfl ?_)
              refine q_lconst rfl rfl ?_
              refine q_last rfl rfl (by decide) (FW_79 S hW) (by decide) ?_
              refine q_icc2 (z := 1) rfl rfl rfl rfl rfl ?_
              refine q_goto rfl ?_
              refine q_iload_n rfl rfl rfl ?_
              refine q_bipush rfl rfl ?_
              refine q_icge rfl rfl (fun c383 => absurd c383 (by decide)) (fun c383 => ?_)
              refine q_aload_n rfl rfl rfl ?_
              refine q_getf rfl rfl (by decide) (FW_46 S hW) rfl ?_
              refine q_bipush rfl rfl ?_
              refine q_iload_n rfl rfl rfl ?_
              refine q_imul rfl rfl (q_tn (z := 300) rfl ?_)
              refine q_iload_n rfl rfl rfl ?_
              refine q_iadd rfl rfl (q_tn (z := 301) rfl ?_)
              refine q_lconst rfl rfl ?_
              refine q_last rfl rfl (by decide) rfl (by decide) ?_
              refine q_icc2 (z := 2) rfl rfl rfl rfl rfl ?_
              refine q_goto rfl ?_
              refine q_iload_n rfl rfl rfl ?_
              refine q_bipush rfl rfl ?_
              refine q_icge rfl rfl (fun c384 => absurd c384 (by decide)) (fun c384 => ?_)
              refine q_aload_n rfl rfl rfl ?_
              refine q_getf rfl rfl (by decide) (FW_46 S hW) rfl ?_
              refine q_bipush rfl rfl ?_
              refine q_iload_n rfl rfl rfl ?_
              refine q_imul rfl rfl (q_tn (z := 300) rfl ?_)
              refine q_iload_n rfl rfl rfl ?_
              refine q_iadd rfl rfl (q_tn (z := 302) rfl ?_)
              refine q_lconst rfl rfl ?_
              refine q_last rfl rfl (by decide) rfl (by decide) ?_
              refine q_icc2 (z := 3) rfl rfl rfl rfl rfl ?_
              refine q_goto rfl ?_
              refine q_iload_n rfl rfl rfl ?_
              refine q_bipush rfl rfl ?_
              refine q_icge rfl rfl (fun c385 => absurd c385 (by decide)) (fun c385 => ?_)
              refine q_aload_n rfl rfl rfl ?_
              refine q_getf rfl rfl (by decide) (FW_46 S hW) rfl ?_
              refine q_bipush rfl rfl ?_
              refine q_iload_n rfl rfl rfl ?_
              refine q_imul rfl rfl (q_tn (z := 300) rfl ?_)
              refine q_iload_n rfl rfl rfl ?_
              refine q_iadd rfl rfl (q_tn (z := 303) rfl ?_)
              refine q_lconst rfl rfl ?_
              refine q_last rfl rfl (by decide) rfl (by decide) ?_
              refine q_icc2 (z := 4) rfl rfl rfl rfl rfl ?_
              refine q_goto rfl ?_
              refine q_iload_n rfl rfl rfl ?_
              refine q_bipush rfl rfl ?_
              refine q_icge rfl rfl (fun c386 => absurd c386 (by decide)) (fun c386 => ?_)
              refine q_aload_n rfl rfl rfl ?_
              refine q_getf rfl rfl (by decide) (FW_46 S hW) rfl ?_
              refine q_bipush rfl rfl ?_
              refine q_iload_n rfl rfl rfl ?_
              refine q_imul rfl rfl (q_tn (z := 300) rfl ?_)
              refine q_iload_n rfl rfl rfl ?_
              refine q_iadd rfl rfl (q_tn (z := 304) rfl ?_)
              refine q_lconst rfl rfl ?_
              refine q_last rfl rfl (by decide) rfl (by decide) ?_
              refine q_icc2 (z := 5) rfl rfl rfl rfl rfl ?_
              refine q_goto rfl ?_
              refine q_iload_n rfl rfl rfl ?_
              refine q_bipush rfl rfl ?_
              refine q_icge rfl rfl (fun c387 => absurd c387 (by decide)) (fun c387 => ?_)
              refine q_aload_n rfl rfl rfl ?_
              refine q_getf rfl rfl (by decide) (FW_46 S hW) rfl ?_
              refine q_bipush rfl rfl ?_
              refine q_iload_n rfl rfl rfl ?_
              refine q_imul rfl rfl (q_tn (z := 300) rfl ?_)
              refine q_iload_n rfl rfl rfl ?_
              refine q_iadd rfl rfl (q_tn (z := 305) rfl ?_)
              refine q_lconst rfl rfl ?_
              refine q_last rfl rfl (by decide) rfl (by decide) ?_
              refine q_icc2 (z := 6) rfl rfl rfl rfl rfl ?_
              refine q_goto rfl ?_
              refine q_iload_n rfl rfl rfl ?_
              refine q_bipush rfl rfl ?_
              refine q_icge rfl rfl (fun c388 => absurd c388 (by decide)) (fun c388 => ?_)
              refine q_aload_n rfl rfl rfl ?_
              refine q_getf rfl rfl (by decide) (FW_46 S hW) rfl ?_
              refine q_bipush rfl rfl ?_
              refine q_iload_n rfl rfl rfl ?_
              refine q_imul rfl rfl (q_tn (z := 300) rfl ?_)
              refine q_iload_n rfl rfl rfl ?_
              refine q_iadd rfl rfl (q_tn (z := 306) rfl ?_)
              refine q_lconst rfl rfl ?_
              refine q_last rfl rfl (by decide) rfl (by decide) ?_
              refine q_icc2 (z := 7) rfl rfl rfl rfl rfl ?_
              refine q_goto rfl ?_
              refine q_iload_n rfl rfl rfl ?_
              refine q_bipush rfl rfl ?_
              refine q_icge rfl rfl (fun c389 => absurd c389 (by decide)) (fun c389 => ?_)
              refine q_aload_n rfl rfl rfl ?_
              refine q_getf rfl rfl (by decide) (FW_46 S hW) rfl ?_
              refine q_bipush rfl rfl ?_
              refine q_iload_n rfl rfl rfl ?_
              refine q_imul rfl rfl (q_tn (z := 300) rfl ?_)
              refine q_iload_n rfl rfl rfl ?_
              refine q_iadd rfl rfl (q_tn (z := 307) rfl ?_)
              refine q_lconst rfl rfl ?_
              refine q_last rfl rfl (by decide) rfl (by decide) ?_
              refine q_icc2 (z := 8) rfl rfl rfl rfl rfl ?_
              refine q_goto rfl ?_
              refine q_iload_n rfl rfl rfl ?_
              refine q_bipush rfl rfl ?_
              refine q_icge rfl rfl (fun c390 => absurd c390 (by decide)) (fun c390 => ?_)
              refine q_aload_n rfl rfl rfl ?_
              refine q_getf rfl rfl (by decide) (FW_46 S hW) rfl ?_
              refine q_bipush rfl rfl ?_
              refine q_iload_n rfl rfl rfl ?_
              refine q_imul rfl rfl (q_tn (z := 300) rfl ?_)
              refine q_iload_n rfl rfl rfl ?_
              refine q_iadd rfl rfl (q_tn (z := 308) rfl ?_)
              refine q_lconst rfl rfl ?_
              refine q_last rfl rfl (by decide) rfl (by decide) ?_
              refine q_icc2 (z := 9) rfl rfl rfl rfl rfl ?_
              refine q_goto rfl ?_
              refine q_iload_n rfl rfl rfl ?_
              refine q_bipush rfl rfl ?_
              refine q_icge rfl rfl (fun c391 => absurd c391 (by decide)) (fun c391 => ?_)
              refine q_aload_n rfl rfl rfl ?_
              refine q_getf rfl rfl (by decide) (FW_46 S hW) rfl ?_
              refine q_bipush rfl rfl ?_
              refine q_iload_n rfl rfl rfl ?_
              refine q_imul rfl rfl (q_tn (z := 300) rfl ?_)
              refine q_iload_n rfl rfl rfl ?_
              refine q_iadd rfl rfl (q_tn (z := 309) rfl ?_)
              refine q_lconst rfl rfl ?_
              refine q_last rfl rfl (by decide) rfl (by decide) ?_
              refine q_icc2 (z := 10) rfl rfl rfl rfl rfl ?_
              refine q_goto rfl ?_
              refine q_iload_n rfl rfl rfl ?_
              refine q_bipush rfl rfl ?_
              refine q_icge rfl rfl (fun c392 => absurd c392 (by decide)) (fun c392 => ?_)
              refine q_aload_n rfl rfl rfl ?_
              refine q_getf rfl rfl (by decide) (FW_46 S hW) rfl ?_
              refine q_bipush rfl rfl ?_
              refine q_iload_n rfl rfl rfl ?_
              refine q_imul rfl rfl (q_tn (z := 300) rfl ?_)
              refine q_iload_n rfl rfl rfl ?_
              refine q_iadd rfl rfl (q_tn (z := 310) rfl ?_)
              refine q_lconst rfl rfl ?_
              refine q_last rfl rfl (by decide) rfl (by decide) ?_
              refine q_icc2 (z := 11) rfl rfl rfl rfl rfl ?_
              refine q_goto rfl ?_
              refine q_iload_n rfl rfl rfl ?_
              refine q_bipush rfl rfl ?_
              refine q_icge rfl rfl (fun c393 => absurd c393 (by decide)) (fun c393 => ?_)
              refine q_aload_n rfl rfl rfl ?_
              refine q_getf rfl rfl (by decide) (FW_46 S hW) rfl ?_
              refine q_bipush rfl rfl ?_
              refine q_iload_n rfl rfl rfl ?_
              refine q_imul rfl rfl (q_tn (z := 300) rfl ?_)
              refine q_iload_n rfl rfl rfl ?_
              refine q_iadd rfl rfl (q_tn (z := 311) rfl ?_)
              refine q_lconst rfl rfl ?_
              refine q_last rfl rfl (by decide) rfl (by decide) ?_
              refine q_icc2 (z := 12) rfl rfl rfl rfl rfl ?_
              refine q_goto rfl ?_
              refine q_iload_n rfl rfl rfl ?_
              refine q_bipush rfl rfl ?_
              refine q_icge rfl rfl (fun c394 => absurd c394 (by decide)) (fun c394 => ?_)
              refine q_aload_n rfl rfl rfl ?_
              refine q_getf rfl rfl (by decide) (FW_46 S hW) rfl ?_
              refine q_bipush rfl rfl ?_
              refine q_iload_n rfl rfl rfl ?_
              refine q_imul rfl rfl (q_tn (z := 300) rfl ?_)
              refine q_iload_n rfl rfl rfl ?_
              refine q_iadd rfl rfl (q_tn (z := 312) rfl ?_)
              refine q_lconst rfl rfl ?_
              refine q_last rfl rfl (by decide) rfl (by decide) ?_
              refine q_icc2 (z := 13) rfl rfl rfl rfl rfl ?_
              refine q_goto rfl ?_
              refine q_iload_n rfl rfl rfl ?_
              refine q_bipush rfl rfl ?_
              refine q_icge rfl rfl (fun c395 => absurd c395 (by decide)) (fun c395 => ?_)
              refine q_aload_n rfl rfl rfl ?_
              refine q_getf rfl rfl (by decide) (FW_46 S hW) rfl ?_
              refine q_bipush rfl rfl ?_
              refine q_iload_n rfl rfl rfl ?_
              refine q_imul rfl rfl (q_tn (z := 300) rfl ?_)
              refine q_iload_n rfl rfl rfl ?_
              refine q_iadd rfl rfl (q_tn (z := 313) rfl ?_)
              refine q_lconst rfl rfl ?_
              refine q_last rfl rfl (by decide) rfl (by decide) ?_
              refine q_icc2 (z := 14) rfl rfl rfl rfl rfl ?_
              refine q_goto rfl ?_
              refine q_iload_n rfl rfl rfl ?_
              refine q_bipush rfl rfl ?_
              refine q_icge rfl rfl (fun c396 => absurd c396 (by decide)) (fun c396 => ?_)
              refine q_aload_n rfl rfl rfl ?_
              refine q_getf rfl rfl (by decide) (FW_46 S hW) rfl ?_
              refine q_bipush rfl rfl ?_
              refine q_iload_n rfl rfl rfl ?_
              refine q_imul rfl rfl (q_tn (z := 300) rfl ?_)
              refine q_iload_n rfl rfl rfl ?_
              refine q_iadd rfl rfl (q_tn (z := 314) rfl ?_)
              refine q_lconst rfl rfl ?_
              refine q_last rfl rfl (by decide) rfl (by decide) ?_
              refine q_icc2 (z := 15) rfl rfl rfl rfl rfl ?_
              refine q_goto rfl ?_
              refine q_iload_n rfl rfl rfl ?_
              refine q_bipush rfl rfl ?_
              refine q_icge rfl rfl (fun c397 => absurd c397 (by decide)) (fun c397 => ?_)
              refine q_aload_n rfl rfl rfl ?_
              refine q_getf rfl rfl (by decide) (FW_46 S hW) rfl ?_
              refine q_bipush rfl rfl ?_
              refine q_iload_n rfl rfl rfl ?_
              refine q_imul rfl rfl (q_tn (z := 300) rfl ?_)
              refine q_iload_n rfl rfl rfl ?_
              refine q_iadd rfl rfl (q_tn (z := 315) rfl ?_)
              refine q_lconst rfl rfl ?_
              refine q_last rfl rfl (by decide) rfl (by decide) ?_
              refine q_icc2 (z := 16) rfl rfl rfl rfl rfl ?_
              refine q_goto rfl ?_
              refine q_iload_n rfl rfl rfl ?_
              refine q_bipush rfl rfl ?_
              refine q_icge rfl rfl (fun c398 => absurd c398 (by decide)) (fun c398 => ?_)
              refine q_aload_n rfl rfl rfl ?_
              refine q_getf rfl rfl (by decide) (FW_46 S hW) rfl ?_
              refine q_bipush rfl rfl ?_
              refine q_iload_n rfl rfl rfl ?_
              refine q_imul rfl rfl (q_tn (z := 300) rfl ?_)
              refine q_iload_n rfl rfl rfl ?_
              refine q_iadd rfl rfl (q_tn (z := 316) rfl ?_)
              refine q_lconst rfl rfl ?_
              refine q_last rfl rfl (by decide) rfl (by decide) ?_
              refine q_icc2 (z := 17) rfl rfl rfl rfl rfl ?_
              refine q_goto rfl ?_
              refine q_iload_n rfl rfl rfl ?_
              refine q_bipush rfl rfl ?_
              refine q_icge rfl rfl (fun c399 => absurd c399 (by decide)) (fun c399 => ?_)
              refine q_aload_n rfl rfl rfl ?_
              refine q_getf rfl rfl (by decide) (FW_46 S hW) rfl ?_
              refine q_bipush rfl rfl ?_
              refine q_iload_n rfl rfl rfl ?_
              refine q_imul rfl rfl (q_tn (z := 300) rfl ?_)
              refine q_iload_n rfl rfl rfl ?_
              refine q_iadd rfl rfl (q_tn (z := 317) rfl ?_)
              refine q_lconst rfl rfl ?_
              refine q_last rfl rfl (by decide) rfl (by decide) ?_
              refine q_icc2 (z := 18) rfl rfl rfl rfl rfl ?_
              refine q_goto rfl ?_
              refine q_iload_n rfl rfl rfl ?_
              refine q_bipush rfl rfl ?_
              refine q_icge rfl rfl (fun c400 => absurd c400 (by decide)) (fun c400 => ?_)
              refine q_aload_n rfl rfl rfl ?_
              refine q_getf rfl rfl (by decide) (FW_46 S hW) rfl ?_
              refine q_bipush rfl rfl ?_
              refine q_iload_n rfl rfl rfl ?_
              refine q_imul rfl rfl (q_tn (z := 300) rfl ?_)
              refine q_iload_n rfl rfl rfl ?_
              refine q_iadd rfl rfl (q_tn (z := 318) rfl ?_)
              refine q_lconst rfl rfl ?_
              refine q_last rfl rfl (by decide) rfl (by decide) ?_
              refine q_icc2 (z := 19) rfl rfl rfl rfl rfl ?_
              refine q_goto rfl ?_
              refine q_iload_n rfl rfl rfl ?_
              refine q_bipush rfl rfl ?_
              refine q_icge rfl rfl (fun c401 => absurd c401 (by decide)) (fun c401 => ?_)
              refine q_aload_n rfl rfl rfl ?_
              refine q_getf rfl rfl (by decide) (FW_46 S hW) rfl ?_
              refine q_bipush rfl rfl ?_
              refine q_iload_n rfl rfl rfl ?_
              refine q_imul rfl rfl (q_tn (z := 300) rfl ?_)
              refine q_iload_n rfl rfl rfl ?_
              refine q_iadd rfl rfl (q_tn (z := 319) rfl ?_)
              refine q_lconst rfl rfl ?_
              refine q_last rfl rfl (by decide) rfl (by decide) ?_
              refine q_icc2 (z := 20) rfl rfl rfl rfl rfl ?_
              refine q_goto rfl ?_
              refine q_iload_n rfl rfl rfl ?_
              refine q_bipush rfl rfl ?_
              refine q_icge rfl rfl (fun c402 => absurd c402 (by decide)) (fun c402 => ?_)
              refine q_aload_n rfl rfl rfl ?_
              refine q_getf rfl rfl (by decide) (FW_46 S hW) rfl ?_
              refine q_bipush rfl rfl ?_
              refine q_iload_n rfl rfl rfl ?_
              refine q_imul rfl rfl (q_tn (z := 300) rfl ?_)
              refine q_iload_n rfl rfl rfl ?_
              refine q_iadd rfl rfl (q_tn (z := 320) rfl ?_)
              refine q_lconst rfl rfl ?_
              refine q_last rfl rfl (by decide) rfl (by decide) ?_
              refine q_icc2 (z := 21) rfl rfl rfl rfl rfl ?_
              refine q_goto rfl ?_
              refine q_iload_n rfl rfl rfl ?_
              refine q_bipush rfl rfl ?_
              refine q_icge rfl rfl (fun c403 => absurd c403 (by decide)) (fun c403 => ?_)
              refine q_aload_n rfl rfl rfl ?_
              refine q_getf rfl rfl (by decide) (FW_46 S hW) rfl ?_
              refine q_bipush rfl rfl ?_
              refine q_iload_n rfl rfl rfl ?_
              refine q_imul rfl rfl (q_tn (z := 300) rfl ?_)
              refine q_iload_n rfl rfl rfl ?_
              refine q_iadd rfl rfl (q_tn (z := 321) rfl ?_)
              refine q_lconst rfl rfl ?_
              refine q_last rfl rfl (by decide) rfl (by decide) ?_
              refine q_icc2 (z := 22) rfl rfl rfl rfl rfl ?_
              refine q_goto rfl ?_
              refine q_iload_n rfl rfl rfl ?_
              refine q_bipush rfl rfl ?_
              refine q_icge rfl rfl (fun c404 => absurd c404 (by decide)) (fun c404 => ?_)
              refine q_aload_n rfl rfl rfl ?_
              refine q_getf rfl rfl (by decide) (FW_46 S hW) rfl ?_
              refine q_bipush rfl rfl ?_
              refine q_iload_n rfl rfl rfl ?_
              refine q_imul rfl rfl (q_tn (z := 300) rfl ?_)
              refine q_iload_n rfl rfl rfl ?_
              refine q_iadd rfl rfl (q_tn (z := 322) rfl ?_)
              refine q_lconst rfl rfl ?_
              refine q_last rfl rfl (by decide) rfl (by decide) ?_
              refine q_icc2 (z := 23) rfl rfl rfl rfl rfl ?_
              refine q_goto rfl ?_
              refine q_iload_n rfl rfl rfl ?_
              refine q_bipush rfl rfl ?_
              refine q_icge rfl rfl (fun c405 => absurd c405 (by decide)) (fun c405 => ?_)
              refine q_aload_n rfl rfl rfl ?_
              refine q_getf rfl rfl (by decide) (FW_46 S hW) rfl ?_
              refine q_bipush rfl rfl ?_
              refine q_iload_n rfl rfl rfl ?_
              refine q_imul rfl rfl (q_tn (z := 300) rfl ?_)
              refine q_iload_n rfl rfl rfl ?_
              refine q_iadd rfl rfl (q_tn (z := 323) rfl ?_)
              refine q_lconst rfl rfl ?_
              refine q_last rfl rfl (by decide) rfl (by decide) ?_
              refine q_icc2 (z := 24) rfl rfl rfl rfl rfl ?_
              refine q_goto rfl ?_
              refine q_iload_n rfl rfl rfl ?_
              refine q_bipush rfl rfl ?_
              refine q_icge rfl rfl (fun c406 => absurd c406 (by decide)) (fun c406 => ?_)
              refine q_aload_n rfl rfl rfl ?_
              refine q_getf rfl rfl (by decide) (FW_46 S hW) rfl ?_
              refine q_bipush rfl rfl ?_
              refine q_iload_n rfl rfl rfl ?_
              refine q_imul rfl rfl (q_tn (z := 300) rfl ?_)
              refine q_iload_n rfl rfl rfl ?_
              refine q_iadd rfl rfl (q_tn (z := 324) rfl ?_)
              refine q_lconst rfl rfl ?_
              refine q_last rfl rfl (by decide) rfl (by decide) ?_
              refine q_icc2 (z := 25) rfl rfl rfl rfl rfl ?_
              refine q_goto rfl ?_
              refine q_iload_n rfl rfl rfl ?_
              refine q_bipush rfl rfl ?_
              refine q_icge rfl rfl (fun c407 => absurd c407 (by decide)) (fun c407 => ?_)
              refine q_aload_n rfl rfl rfl ?_
              refine q_getf rfl rfl (by decide) (FW_46 S hW) rfl ?_
              refine q_bipush rfl rfl ?_
              refine q_iload_n rfl rfl rfl ?_
              refine q_imul rfl rfl (q_tn (z := 300) rfl ?_)
              refine q_iload_n rfl rfl rfl ?_
              refine q_iadd rfl rfl (q_tn (z := 325) rfl ?_)
              refine q_lconst rfl rfl ?_
              refine q_last rfl rfl (by decide) rfl (by decide) ?_
              refine q_icc2 (z := 26) rfl rfl rfl rfl rfl ?_
              refine q_goto rfl ?_
              refine q_iload_n rfl rfl rfl ?_
              refine q_bipush rfl rfl ?_
              refine q_icge rfl rfl (fun c408 => absurd c408 (by decide)) (fun c408 => ?_)
              refine q_aload_n rfl rfl rfl ?_
              refine q_getf rfl rfl (by decide) (FW_46 S hW) rfl ?_
              refine q_bipush rfl rfl ?_
              refine q_iload_n rfl rfl rfl ?_
              refine q_imul rfl rfl (q_tn (z := 300) rfl ?_)
              refine q_iload_n rfl rfl rfl ?_
              refine q_iadd rfl rfl (q_tn (z := 326) rfl ?_)
              refine q_lconst rfl rfl ?_
              refine q_last rfl rfl (by decide) rfl (by decide) ?_
              refine q_icc2 (z := 27) rfl rfl rfl rfl rfl ?_
              refine q_goto rfl ?_
              refine q_iload_n rfl rfl rfl ?_
              refine q_bipush rfl rfl ?_
              refine q_icge rfl rfl (fun c409 => absurd c409 (by decide)) (fun c409 => ?_)
              refine q_aload_n rfl rfl rfl ?_
              refine q_getf rfl rfl (by decide) (FW_46 S hW) rfl ?_
              refine q_bipush rfl rfl ?_
              refine q_iload_n rfl rfl rfl ?_
              refine q_imul rfl rfl (q_tn (z := 300) rfl ?_)
              refine q_iload_n rfl rfl rfl ?_
              refine q_iadd rfl rfl (q_tn (z := 327) rfl ?_)
              refine q_lconst rfl rfl ?_
              refine q_last rfl rfl (by decide) rfl (by decide) ?_
              refine q_icc2 (z := 28) rfl rfl rfl rfl rfl ?_
              refine q_goto rfl ?_
              refine q_iload_n rfl rfl rfl ?_
              refine q_bipush rfl rfl ?_
              refine q_icge rfl rfl (fun c410 => absurd c410 (by decide)) (fun c410 => ?_)
              refine q_aload_n rfl rfl rfl ?_
              refine q_getf rfl rfl (by decide) (FW_46 S hW) rfl ?_
              refine q_bipush rfl rfl ?_
              refine q_iload_n rfl rfl rfl ?_
              refine q_imul rfl rfl (q_tn (z := 300) rfl ?_)
              refine q_iload_n rfl rfl rfl ?_
              refine q_iadd rfl rfl (q_tn (z := 328) rfl ?_)
              refine q_lconst rfl rfl ?_
              refine q_last rfl rfl (by decide) rfl (by decide) ?_
              refine q_icc2 (z := 29) rfl rfl rfl rfl rfl ?_
              refine q_goto rfl ?_
              refine q_iload_n rfl rfl rfl ?_
              refine q_bipush rfl rfl ?_
              refine q_icge rfl rfl (fun c411 => absurd c411 (by decide)) (fun c411 => ?_)
              refine q_aload_n rfl rfl rfl ?_
              refine q_getf rfl rfl (by decide) (FW_46 S hW) rfl ?_
              refine q_bipush rfl rfl ?_
              refine q_iload_n rfl rfl rfl ?_
              refine q_imul rfl rfl (q_tn (z := 300) rfl ?_)
              refine q_iload_n rfl rfl rfl ?_
              refine q_iadd rfl rfl (q_tn (z := 329) rfl ?_)
              refine q_lconst rfl rfl ?_
              refine q_last rfl rfl (by decide) rfl (by decide) ?_
              refine q_icc2 (z := 30) rfl rfl rfl rfl rfl ?_
              refine q_goto rfl ?_
              refine q_iload_n rfl rfl rfl ?_
              refine q_bipush rfl rfl ?_
              refine q_icge rfl rfl (fun c412 => absurd c412 (by decide)) (fun c412 => ?_)
              refine q_aload_n rfl rfl rfl ?_
              refine q_getf rfl rfl (by decide) (FW_46 S hW) rfl ?_
              refine q_bipush rfl rfl ?_
              refine q_iload_n rfl rfl rfl ?_
              refine q_imul rfl rfl (q_tn (z := 300) rfl ?_)
              refine q_iload_n rfl rfl rfl ?_
              refine q_iadd rfl rfl (q_tn (z := 330) rfl ?_)
              refine q_lconst rfl rfl ?_
              refine q_last rfl rfl (by decide) rfl (by decide) ?_
              refine q_icc2 (z := 31) rfl rfl rfl rfl rfl ?_
              refine q_goto rfl ?_
              refine q_iload_n rfl rfl rfl ?_
              refine q_bipush rfl rfl ?_
              refine q_icge rfl rfl (fun c413 => absurd c413 (by decide)) (fun c413 => ?_)
              refine q_aload_n rfl rfl rfl ?_
              refine q_getf rfl rfl (by decide) (FW_46 S hW) rfl ?_
              refine q_bipush rfl rfl ?_
              refine q_iload_n rfl rfl rfl ?_
              refine q_imul rfl rfl (q_tn (z := 300) rfl ?_)
              refine q_iload_n rfl rfl rfl ?_
              refine q_iadd rfl rfl (q_tn (z := 331) rfl ?_)
              refine q_lconst rfl rfl ?_
              refine q_last rfl rfl (by decide) rfl (by decide) ?_
              refine q_icc2 (z := 32) rfl rfl rfl rfl rfl ?_
              refine q_goto rfl ?_
              refine q_iload_n rfl rfl rfl ?_
              refine q_bipush rfl rfl ?_
              refine q_icge rfl rfl (fun c414 => absurd c414 (by decide)) (fun c414 => ?_)
              refine q_aload_n rfl rfl rfl ?_
              refine q_getf rfl rfl (by decide) (FW_46 S hW) rfl ?_
              refine q_bipush rfl rfl ?_
              refine q_iload_n rfl rfl rfl ?_
              refine q_imul rfl rfl (q_tn (z := 300) rfl ?_)
              refine q_iload_n rfl rfl rfl ?_
              refine q_iadd rfl rfl (q_tn (z := 332) rfl ?_)
              refine q_lconst rfl rfl ?_
              refine q_last rfl rfl (by decide) rfl (by decide) ?_
              refine q_icc2 (z := 33) rfl rfl rfl rfl rfl ?_
              refine q_goto rfl ?_
              refine q_iload_n rfl rfl rfl ?_
              refine q_bipush rfl rfl ?_
              refine q_icge rfl rfl (fun c415 => absurd c415 (by decide)) (fun c415 => ?_)
              refine q_aload_n rfl rfl rfl ?_
              refine q_getf rfl rfl (by decide) (FW_46 S hW) rfl ?_
              refine q_bipush rfl rfl ?_
              refine q_iload_n rfl rfl rfl ?_
              refine q_imul rfl rfl (q_tn (z := 300) rfl ?_)
              refine q_iload_n rfl rfl rfl ?_
              refine q_iadd rfl rfl (q_tn (z := 333) rfl ?_)
              refine q_lconst rfl rfl ?_
              refine q_last rfl rfl (by decide) rfl (by decide) ?_
              refine q_icc2 (z := 34) rfl rfl rfl rfl rfl ?_
              refine q_goto rfl ?_
              refine q_iload_n rfl rfl rfl ?_
              refine q_bipush rfl rfl ?_
              refine q_icge rfl rfl (fun c416 => absurd c416 (by decide)) (fun c416 => ?_)
              refine q_aload_n rfl rfl rfl ?_
              refine q_getf rfl rfl (by decide) (FW_46 S hW) rfl ?_
              refine q_bipush rfl rfl ?_
              refine q_iload_n rfl rfl rfl ?_
              refine q_imul rfl rfl (q_tn (z := 300) rfl ?_)
              refine q_iload_n rfl rfl rfl ?_
              refine q_iadd rfl rfl (q_tn (z := 334) rfl ?_)
              refine q_lconst rfl rfl ?_
              refine q_last rfl rfl (by decide) rfl (by decide) ?_
              refine q_icc2 (z := 35) rfl rfl rfl rfl rfl ?_
              refine q_goto rfl ?_
              refine q_iload_n rfl rfl rfl ?_
              refine q_bipush rfl rfl ?_
              refine q_icge rfl rfl (fun c417 => absurd c417 (by decide)) (fun c417 => ?_)
              refine q_aload_n rfl rfl rfl ?_
              refine q_getf rfl rfl (by decide) (FW_46 S hW) rfl ?_
              refine q_bipush rfl rfl ?_
              refine q_iload_n rfl rfl rfl ?_
              refine q_imul rfl rfl (q_tn (z := 300) rfl ?_)
              refine q_iload_n rfl rfl rfl ?_
              refine q_iadd rfl rfl (q_tn (z := 335) rfl ?_)
              refine q_lconst rfl rfl ?_
              refine q_last rfl rfl (by decide) rfl (by decide) ?_
              refine q_icc2 (z := 36) rfl rfl rfl rfl rfl ?_
              refine q_goto rfl ?_
              refine q_iload_n rfl rfl rfl ?_
              refine q_bipush rfl rfl ?_
              refine q_icge rfl rfl (fun c418 => absurd c418 (by decide)) (fun c418 => ?_)
              refine q_aload_n rfl rfl rfl ?_
              refine q_getf rfl rfl (by decide) (FW_46 S hW) rfl ?_
              refine q_bipush rfl rfl ?_
              refine q_iload_n rfl rfl rfl ?_
              refine q_imul rfl rfl (q_tn (z := 300) rfl ?_)
              refine q_iload_n rfl rfl rfl ?_
              refine q_iadd rfl rfl (q_tn (z := 336) rfl ?_)
              refine q_lconst rfl rfl ?_
              refine q_last rfl rfl (by decide) rfl (by decide) ?_
              refine q_icc2 (z := 37) rfl rfl rfl rfl rfl ?_
              refine q_goto rfl ?_
              refine q_iload_n rfl rfl rfl ?_
              refine q_bipush rfl rfl ?_
              refine q_icge rfl rfl (fun c419 => absurd c419 (by decide)) (fun c419 => ?_)
              refine q_aload_n rfl rfl rfl ?_
              refine q_getf rfl rfl (by decide) (FW_46 S hW) rfl ?_
              refine q_bipush rfl rfl ?_
              refine q_iload_n rfl rfl rfl ?_
              refine q_imul rfl rfl (q_tn (z := 300) rfl ?_)
              refine q_iload_n rfl rfl rfl ?_
              refine q_iadd rfl rfl (q_tn (z := 337) rfl ?_)
              refine q_lconst rfl rfl ?_
              refine q_last rfl rfl (by decide) rfl (by decide) ?_
              refine q_icc2 (z := 38) rfl rfl rfl rfl rfl ?_
              refine q_goto rfl ?_
              refine q_iload_n rfl rfl rfl ?_
              refine q_bipush rfl rfl ?_
              refine q_icge rfl rfl (fun c420 => absurd c420 (by decide)) (fun c420 => ?_)
              refine q_aload_n rfl rfl rfl ?_
              refine q_getf rfl rfl (by decide) (FW_46 S hW) rfl ?_
              refine q_bipush rfl rfl ?_
              refine q_iload_n rfl rfl rfl ?_
              refine q_imul rfl rfl (q_tn (z := 300) rfl ?_)
              refine q_iload_n rfl rfl rfl ?_
              refine q_iadd rfl rfl (q_tn (z := 338) rfl ?_)
              refine q_lconst rfl rfl ?_
              refine q_last rfl rfl (by decide) rfl (by decide) ?_
              refine q_icc2 (z := 39) rfl rfl rfl rfl rfl ?_
              refine q_goto rfl ?_
              refine q_iload_n rfl rfl rfl ?_
              refine q_bipush rfl rfl ?_
              refine q_icge rfl rfl (fun c421 => absurd c421 (by decide)) (fun c421 => ?_)
              refine q_aload_n rfl rfl rfl ?_
              refine q_getf rfl rfl (by decide) (FW_46 S hW) rfl ?_
              refine q_bipush rfl rfl ?_
              refine q_iload_n rfl rfl rfl ?_
              refine q_imul rfl rfl (q_tn (z := 300) rfl ?_)
              refine q_iload_n rfl rfl rfl ?_
              refine q_iadd rfl rfl (q_tn (z := 339) rfl ?_)
              refine q_lconst rfl rfl ?_
              refine q_last rfl rfl (by decide) rfl (by decide) ?_
              refine q_icc2 (z := 40) rfl rfl rfl rfl rfl ?_
              refine q_goto rfl ?_
              refine q_iload_n rfl rfl rfl ?_
              refine q_bipush rfl rfl ?_
              refine q_icge rfl rfl (fun c422 => absurd c422 (by decide)) (fun c422 => ?_)
              refine q_aload_n rfl rfl rfl ?_
              refine q_getf rfl rfl (by decide) (FW_46 S hW) rfl ?_
              refine q_bipush rfl rfl ?_
              refine q_iload_n rfl rfl rfl ?_
              refine q_imul rfl rfl (q_tn (z := 300) rfl ?_)
              refine q_iload_n rfl rfl rfl ?_
              refine q_iadd rfl rfl (q_tn (z := 340) rfl ?_)
              refine q_lconst rfl rfl ?_
              refine q_last rfl rfl (by decide) rfl (by decide) ?_
              refine q_icc2 (z := 41) rfl rfl rfl rfl rfl ?_
              refine q_goto rfl ?_
              refine q_iload_n rfl rfl rfl ?_
              refine q_bipush rfl rfl ?_
              refine q_icge rfl rfl (fun c423 => absurd c423 (by decide)) (fun c423 => ?_)
              refine q_aload_n rfl rfl rfl ?_
              refine q_getf rfl rfl (by decide) (FW_46 S hW) rfl ?_
              refine q_bipush rfl rfl ?_
              refine q_iload_n rfl rfl rfl ?_
              refine q_imul rfl rfl (q_tn (z := 300) rfl ?_)
              refine q_iload_n rfl rfl rfl ?_
              refine q_iadd rfl rfl (q_tn (z := 341) rfl ?_)
              refine q_lconst rfl rfl ?_
              refine q_last rfl rfl (by decide) rfl (by decide) ?_
              refine q_icc2 (z := 42) rfl rfl rfl rfl rfl ?_
              refine q_goto rfl ?_
              refine q_iload_n rfl rfl rfl ?_
              refine q_bipush rfl rfl ?_
              refine q_icge rfl rfl (fun c424 => absurd c424 (by decide)) (fun c424 => ?_)
              refine q_aload_n rfl rfl rfl ?_
              refine q_getf rfl rfl (by decide) (FW_46 S hW) rfl ?_
              refine q_bipush rfl rfl ?_
              refine q_iload_n rfl rfl rfl ?_
              refine q_imul rfl rfl (q_tn (z := 300) rfl ?_)
              refine q_iload_n rfl rfl rfl ?_
              refine q_iadd rfl rfl (q_tn (z := 342) rfl ?_)
              refine q_lconst rfl rfl ?_
              refine q_last rfl rfl (by decide) rfl (by decide) ?_
              refine q_icc2 (z := 43) rfl rfl rfl rfl rfl ?_
              refine q_goto rfl ?_
              refine q_iload_n rfl rfl rfl ?_
              refine q_bipush rfl rfl ?_
              refine q_icge rfl rfl (fun c425 => absurd c425 (by decide)) (fun c425 => ?_)
              refine q_aload_n rfl rfl rfl ?_
              refine q_getf rfl rfl (by decide) (FW_46 S hW) rfl ?_
              refine q_bipush rfl rfl ?_
              refine q_iload_n rfl rfl rfl ?_
              refine q_imul rfl rfl (q_tn (z := 300) rfl ?_)
              refine q_iload_n rfl rfl rfl ?_
              refine q_iadd rfl rfl (q_tn (z := 343) rfl ?_)
              refine q_lconst rfl rfl ?_
              refine q_last rfl rfl (by decide) rfl (by decide) ?_
              refine q_icc2 (z := 44) rfl rfl rfl rfl rfl ?_
              refine q_goto rfl ?_
              refine q_iload_n rfl rfl rfl ?_
              refine q_bipush rfl rfl ?_
              refine q_icge rfl rfl (fun c426 => absurd c426 (by decide)) (fun c426 => ?_)
              refine q_aload_n rfl rfl rfl ?_
              refine q_getf rfl rfl (by decide) (FW_46 S hW) rfl ?_
              refine q_bipush rfl rfl ?_
              refine q_iload_n rfl rfl rfl ?_
              refine q_imul rfl rfl (q_tn (z := 300) rfl ?_)
              refine q_iload_n rfl rfl rfl ?_
              refine q_iadd rfl rfl (q_tn (z := 344) rfl ?_)
              refine q_lconst rfl rfl ?_
              refine q_last rfl rfl (by decide) rfl (by decide) ?_
              refine q_icc2 (z := 45) rfl rfl rfl rfl rfl ?_
              refine q_goto rfl ?_
              refine q_iload_n rfl rfl rfl ?_
              refine q_bipush rfl rfl ?_
              refine q_icge rfl rfl (fun c427 => absurd c427 (by decide)) (fun c427 => ?_)
              refine q_aload_n rfl rfl rfl ?_
              refine q_getf rfl rfl (by decide) (FW_46 S hW) rfl ?_
              refine q_bipush rfl rfl ?_
              refine q_iload_n rfl rfl rfl ?_
              refine q_imul rfl rfl (q_tn (z := 300) rfl ?_)
              refine q_iload_n rfl rfl rfl ?_
              refine q_iadd rfl rfl (q_tn (z := 345) rfl ?_)
              refine q_lconst rfl rfl ?_
              refine q_last rfl rfl (by decide) rfl (by decide) ?_
              refine q_icc2 (z := 46) rfl rfl rfl rfl rfl ?_
              refine q_goto rfl ?_
              refine q_iload_n rfl rfl rfl ?_
              refine q_bipush rfl rfl ?_
              refine q_icge rfl rfl (fun c428 => absurd c428 (by decide)) (fun c428 => ?_)
              refine q_aload_n rfl rfl rfl ?_
              refine q_getf rfl rfl (by decide) (FW_46 S hW) rfl ?_
              refine q_bipush rfl rfl ?_
              refine q_iload_n rfl rfl rfl ?_
              refine q_imul rfl rfl (q_tn (z := 300) rfl ?_)
              refine q_iload_n rfl rfl rfl ?_
              refine q_iadd rfl rfl (q_tn (z := 346) rfl ?_)
              refine q_lconst rfl rfl ?_
              refine q_last rfl rfl (by decide) rfl (by decide) ?_
              refine q_icc2 (z := 47) rfl rfl rfl rfl rfl ?_
              refine q_goto rfl ?_
              refine q_iload_n rfl rfl rfl ?_
              refine q_bipush rfl rfl ?_
              refine q_icge rfl rfl (fun c429 => absurd c429 (by decide)) (fun c429 => ?_)
              refine q_aload_n rfl rfl rfl ?_
              refine q_getf rfl rfl (by decide) (FW_46 S hW) rfl ?_
              refine q_bipush rfl rfl ?_
              refine q_iload_n rfl rfl rfl ?_
              refine q_imul rfl rfl (q_tn (z := 300) rfl ?_)
              refine q_iload_n rfl rfl rfl ?_
              refine q_iadd rfl rfl (q_tn (z := 347) rfl ?_)
              refine q_lconst rfl rfl ?_
              refine q_last rfl rfl (by decide) rfl (by decide) ?_
              refine q_icc2 (z := 48) rfl rfl rfl rfl rfl ?_
              refine q_goto rfl ?_
              refine q_iload_n rfl rfl rfl ?_
              refine q_bipush rfl rfl ?_
              refine q_icge rfl rfl (fun c430 => absurd c430 (by decide)) (fun c430 => ?_)
              refine q_aload_n rfl rfl rfl ?_
              refine q_getf rfl rfl (by decide) (FW_46 S hW) rfl ?_
              refine q_bipush rfl rfl ?_
              refine q_iload_n rfl rfl rfl ?_
              refine q_imul rfl rfl (q_tn (z := 300) rfl ?_)
              refine q_iload_n rfl rfl rfl ?_
              refine q_iadd rfl rfl (q_tn (z := 348) rfl ?_)
              refine q_lconst rfl rfl ?_
              refine q_last rfl rfl (by decide) rfl (by decide) ?_
              refine q_icc2 (z := 49) rfl rfl rfl rfl rfl ?_
              refine q_goto rfl ?_
              refine q_iload_n rfl rfl rfl ?_
              refine q_bipush rfl rfl ?_
              refine q_icge rfl rfl (fun c431 => absurd c431 (by decide)) (fun c431 => ?_)
              refine q_aload_n rfl rfl rfl ?_
              refine q_getf rfl rfl (by decide) (FW_46 S hW) rfl ?_
              refine q_bipush rfl rfl ?_
              refine q_iload_n rfl rfl rfl ?_
              refine q_imul rfl rfl (q_tn (z := 300) rfl ?_)
              refine q_iload_n rfl rfl rfl ?_
              refine q_iadd rfl rfl (q_tn (z := 349) rfl ?_)
              refine q_lconst rfl rfl ?_
              refine q_last rfl rfl (by decide) rfl (by decide) ?_
              refine q_icc2 (z := 50) rfl rfl rfl rfl rfl ?_
              refine q_goto rfl ?_
              refine q_iload_n rfl rfl rfl ?_
              refine q_bipush rfl rfl ?_
              refine q_icge rfl rfl (fun c432 => absurd c432 (by decide)) (fun c432 => ?_)
              refine q_aload_n rfl rfl rfl ?_
              refine q_getf rfl rfl (by decide) (FW_46 S hW) rfl ?_
              refine q_bipush rfl rfl ?_
              refine q_iload_n rfl rfl rfl ?_
              refine q_imul rfl rfl (q_tn (z := 300) rfl ?_)
              refine q_iload_n rfl rfl rfl ?_
              refine q_iadd rfl rfl (q_tn (z := 350) rfl ?_)
              refine q_lconst rfl rfl ?_
              refine q_last rfl rfl (by decide) rfl (by decide) ?_
              refine q_icc2 (z := 51) rfl rfl rfl rfl rfl ?_
              refine q_goto rfl ?_
              refine q_iload_n rfl rfl rfl ?_
              refine q_bipush rfl rfl ?_
              refine q_icge rfl rfl (fun c433 => absurd c433 (by decide)) (fun c433 => ?_)
              refine q_aload_n rfl rfl rfl ?_
              refine q_getf rfl rfl (by decide) (FW_46 S hW) rfl ?_
              refine q_bipush rfl rfl ?_
              refine q_iload_n rfl rfl rfl ?_
              refine q_imul rfl rfl (q_tn (z := 300) rfl ?_)
              refine q_iload_n rfl rfl rfl ?_
              refine q_iadd rfl rfl (q_tn (z := 351) rfl ?_)
              refine q_lconst rfl rfl ?_
              refine q_last rfl rfl (by decide) rfl (by decide) ?_
              refine q_icc2 (z := 52) rfl rfl rfl rfl rfl ?_
              refine q_goto rfl ?_
              refine q_iload_n rfl rfl rfl ?_
              refine q_bipush rfl rfl ?_
              refine q_icge rfl rfl (fun c434 => absurd c434 (by decide)) (fun c434 => ?_)
              refine q_aload_n rfl rfl rfl ?_
              refine q_getf rfl rfl (by decide) (FW_46 S hW) rfl ?_
              refine q_bipush rfl rfl ?_
              refine q_iload_n rfl rfl rfl ?_
              refine q_imul rfl rfl (q_tn (z := 300) rfl ?_)
              refine q_iload_n rfl rfl rfl ?_
              refine q_iadd rfl rfl (q_tn (z := 352) rfl ?_)
              refine q_lconst rfl rfl ?_
              refine q_last rfl rfl (by decide) rfl (by decide) ?_
              refine q_icc2 (z := 53) rfl rfl rfl rfl rfl ?_
              refine q_goto rfl ?_
              refine q_iload_n rfl rfl rfl ?_
              refine q_bipush rfl rfl ?_
              refine q_icge rfl rfl (fun c435 => absurd c435 (by decide)) (fun c435 => ?_)
              refine q_aload_n rfl rfl rfl ?_
              refine q_getf rfl rfl (by decide) (FW_46 S hW) rfl ?_
              refine q_bipush rfl rfl ?_
              refine q_iload_n rfl rfl rfl ?_
              refine q_imul rfl rfl (q_tn (z := 300) rfl ?_)
              refine q_iload_n rfl rfl rfl ?_
              refine q_iadd rfl rfl (q_tn (z := 353) rfl ?_)
              refine q_lconst rfl rfl ?_
              refine q_last rfl rfl (by decide) rfl (by decide) ?_
              refine q_icc2 (z := 54) rfl rfl rfl rfl rfl ?_
              refine q_goto rfl ?_
              refine q_iload_n rfl rfl rfl ?_
              refine q_bipush rfl rfl ?_
              refine q_icge rfl rfl (fun c436 => absurd c436 (by decide)) (fun c436 => ?_)
              refine q_aload_n rfl rfl rfl ?_
              refine q_getf rfl rfl (by decide) (FW_46 S hW) rfl ?_
              refine q_bipush rfl rfl ?_
              refine q_iload_n rfl rfl rfl ?_
              refine q_imul rfl rfl (q_tn (z := 300) rfl ?_)
              refine q_iload_n rfl rfl rfl ?_
              refine q_iadd rfl rfl (q_tn (z := 354) rfl ?_)
              refine q_lconst rfl rfl ?_
              refine q_last rfl rfl (by decide) rfl (by decide) ?_
              refine q_icc2 (z := 55) rfl rfl rfl rfl rfl ?_
              refine q_goto rfl ?_
              refine q_iload_n rfl rfl rfl ?_
              refine q_bipush rfl rfl ?_
              refine q_icge rfl rfl (fun c437 => absurd c437 (by decide)) (fun c437 => ?_)
              refine q_aload_n rfl rfl rfl ?_
              refine q_getf rfl rfl (by decide) (FW_46 S hW) rfl ?_
              refine q_bipush rfl rfl ?_
              refine q_iload_n rfl rfl rfl ?_
              refine q_imul rfl rfl (q_tn (z := 300) rfl ?_)
              refine q_iload_n rfl rfl rfl ?_
              refine q_iadd rfl rfl (q_tn (z := 355) rfl ?_)
              refine q_lconst rfl rfl ?_
              refine q_last rfl rfl (by decide) rfl (by decide) ?_
              refine q_icc2 (z := 56) rfl rfl rfl rfl rfl ?_
              refine q_goto rfl ?_
              refine q_iload_n rfl rfl rfl ?_
              refine q_bipush rfl rfl ?_
              refine q_icge rfl rfl (fun c438 => absurd c438 (by decide)) (fun c438 => ?_)
              refine q_aload_n rfl rfl rfl ?_
              refine q_getf rfl rfl (by decide) (FW_46 S hW) rfl ?_
              refine q_bipush rfl rfl ?_
              refine q_iload_n rfl rfl rfl ?_
              refine q_imul rfl rfl (q_tn (z := 300) rfl ?_)
              refine q_iload_n rfl rfl rfl ?_
              refine q_iadd rfl rfl (q_tn (z := 356) rfl ?_)
              refine q_lconst rfl rfl ?_
              refine q_last rfl rfl (by decide) rfl (by decide) ?_
              refine q_icc2 (z := 57) rfl rfl rfl rfl rfl ?_
              refine q_goto rfl ?_
              refine q_iload_n rfl rfl rfl ?_
              refine q_bipush rfl rfl ?_
              refine q_icge rfl rfl (fun c439 => absurd c439 (by decide)) (fun c439 => ?_)
              refine q_aload_n rfl rfl rfl ?_
              refine q_getf rfl rfl (by decide) (FW_46 S hW) rfl ?_
              refine q_bipush rfl rfl ?_
              refine q_iload_n rfl rfl rfl ?_
              refine q_imul rfl rfl (q_tn (z := 300) rfl ?_)
              refine q_iload_n rfl rfl rfl ?_
              refine q_iadd rfl rfl (q_tn (z := 357) rfl ?_)
              refine q_lconst rfl rfl ?_
              refine q_last rfl rfl (by decide) rfl (by decide) ?_
              refine q_icc2 (z := 58) rfl rfl rfl rfl rfl ?_
              refine q_goto rfl ?_
              refine q_iload_n rfl rfl rfl ?_
              refine q_bipush rfl rfl ?_
              refine q_icge rfl rfl (fun c440 => absurd c440 (by decide)) (fun c440 => ?_)
              refine q_aload_n rfl rfl rfl ?_
              refine q_getf rfl rfl (by decide) (FW_46 S hW) rfl ?_
              refine q_bipush rfl rfl ?_
              refine q_iload_n rfl rfl rfl ?_
              refine q_imul rfl rfl (q_tn (z := 300) rfl ?_)
              refine q_iload_n rfl rfl rfl ?_
              refine q_iadd rfl rfl (q_tn (z := 358) rfl ?_)
              refine q_lconst rfl rfl ?_
              refine q_last rfl rfl (by decide) rfl (by decide) ?_
              refine q_icc2 (z := 59) rfl rfl rfl rfl rfl ?_
              refine q_goto rfl ?_
              refine q_iload_n rfl rfl rfl ?_
              refine q_bipush rfl rfl ?_
              refine q_icge rfl rfl (fun c441 => absurd c441 (by decide)) (fun c441 => ?_)
              refine q_aload_n rfl rfl rfl ?_
              refine q_getf rfl rfl (by decide) (FW_46 S hW) rfl ?_
              refine q_bipush rfl rfl ?_
              refine q_iload_n rfl rfl rfl ?_
              refine q_imul rfl rfl (q_tn (z := 300) rfl ?_)
              refine q_iload_n rfl rfl rfl ?_
              refine q_iadd rfl rfl (q_tn (z := 359) rfl ?_)
              refine q_lconst rfl rfl ?_
              refine q_last rfl rfl (by decide) rfl (by decide) ?_
              refine q_icc2 (z := 60) rfl rfl rfl rfl rfl ?_
              refine q_goto rfl ?_
              refine q_iload_n rfl rfl rfl ?_
              refine q_bipush rfl rfl ?_
              refine q_icge rfl rfl (fun c442 => ?_) (fun c442 => absurd (by decide) c442)
              refine q_ret rfl rfl ?_
              refine ⟨rfl, ?_⟩
              refine q_iconst rfl rfl ?_
              refine q_iret rfl rfl trivial ?_
              refine ⟨_, rfl, ?_⟩
              refine q_iceq rfl rfl (fun c443 => ?_) (fun c443 => absurd (by decide) c443)
              refine q_icc4 (z := 6) rfl rfl rfl rfl rfl ?_
              refine q_goto rfl ?_
              refine q_iload rfl rfl rfl ?_
              refine q_aload_nF rfl rfl rfl ?_
              refine q_alenX (x := 6) rfl rfl rfl ?_
              refine q_bipush rfl rfl ?_
              refine q_isub rfl rfl (q_tn (z := 0) rfl ?_)
              refine q_icgt rfl rfl (fun c444 => ?_) (fun c444 => absurd (by decide) c444)
              refine q_iconst rfl rfl ?_
              refine q_iret rfl rfl rfl ?_
              exact hK _ _
            · refine q_aast rfl rfl (by decide) (by decide) (FW_43 S hW) rfl rfl (by decide) ?_
              refine q_iconst rfl rfl ?_
              refine q_iret rfl rfl trivial ?_
              refine ⟨_, rfl, ?_⟩
              refine q_aload_n rfl rfl rfl ?_
              refine q_aload_nF rfl rfl rfl ?_
              refine q_iload rfl rfl rfl ?_
              refine q_iconst rfl rfl ?_
              refine q_iadd rfl rfl (q_tn (z := 1) rfl ?_)
              refine q_ialdX (x := 6) rfl rfl rfl hx1 ?_
              refine q_aload_nF rfl rfl rfl ?_
              refine q_iload rfl rfl rfl ?_
              refine q_iconst rfl rfl ?_
              refine q_iadd rfl rfl (q_tn (z := 2) rfl ?_)
              refine q_ialdX (x := 3) rfl rfl rfl hx2 ?_
              refine q_aload_nF rfl rfl rfl ?_
              refine q_iload rfl rfl rfl ?_
              refine q_iconst rfl rfl ?_
              refine q_iadd rfl rfl (q_tn (z := 3) rfl ?_)
              refine q_ialdX (x := x3) rfl rfl rfl hx3 ?_
              refine q_nV3 rfl rfl (Or.inl rfl) rfl rfl rfl (by decide) (FW_46 S hW) ⟨rfl, rfl⟩ rfl ?_
              change PQ _ _ _ mm_X12_make 0 [.ref 46, .int 6, .int 3, .int x3] [] _ _ 0 0 _
              refine q_aload_n rfl rfl rfl ?_
              refine q_iload_n rfl rfl rfl ?_
              refine q_nV1 rfl rfl (Or.inl rfl) rfl rfl rfl (by decide) (FW_46 S hW) ⟨rfl, rfl⟩ rfl ?_
              change PQ _ _ _ mm_X12_isShelf 0 [.ref 46, .int 6] [] _ _ 0 0 _
              refine q_aload_n rfl rfl rfl ?_
              refine q_iload_n rfl rfl rfl ?_
              refine q_iconst rfl rfl ?_
              refine q_bipush rfl rfl ?_
              refine q_nV3 rfl rfl (Or.inl rfl) rfl rfl rfl (by decide) (FW_46 S hW) ⟨rfl, rfl⟩ rfl ?_
              change PQ _ _ _ mm_X12_in 0 [.ref 46, .int 6, .int 0, .int 7] [] _ _ 0 0 _
              refine q_iload_n rfl rfl rfl ?_
              refine q_iload_n rfl rfl rfl ?_
              refine q_iclt rfl rfl (fun c445 => absurd c445 (by decide)) (fun c445 => ?_)
              refine q_iload_n rfl rfl rfl ?_
              refine q_iload_n rfl rfl rfl ?_
              refine q_icgt rfl rfl (fun c446 => absurd c446 (by decide)) (fun c446 => ?_)
              refine q_iconst rfl rfl ?_
              refine q_goto rfl ?_
              refine q_iret rfl rfl rfl ?_
              refine ⟨_, rfl, ?_⟩
              refine q_iret rfl rfl rfl ?_
              refine ⟨_, rfl, ?_⟩
              refine q_ifeq rfl rfl (fun c447 => absurd c447 (by decide)) (fun c447 => ?_)
              refine q_aload_n rfl rfl rfl ?_
              refine q_iload_n rfl rfl rfl ?_
              refine q_iconst rfl rfl ?_
              refine q_iconst rfl rfl ?_
              refine q_nV3 rfl rfl (Or.inl rfl) rfl rfl rfl (by decide) (FW_46 S hW) ⟨rfl, rfl⟩ rfl ?_
              change PQ _ _ _ mm_X12_in 0 [.ref 46, .int 3, .int 3, .int 4] [] _ _ 0 0 _
              refine q_iload_n rfl rfl rfl ?_
              refine q_iload_n rfl rfl rfl ?_
              refine q_iclt rfl rfl (fun c448 => absurd c448 (by decide)) (fun c448 => ?_)
              refine q_iload_n rfl rfl rfl ?_
              refine q_iload_n rfl rfl rfl ?_
              refine q_icgt rfl rfl (fun c449 => absurd c449 (by decide)) (fun c449 => ?_)
              refine q_iconst rfl rfl ?_
              refine q_goto rfl ?_
              refine q_iret rfl rfl rfl ?_
              refine ⟨_, rfl, ?_⟩
              refine q_ifeq rfl rfl (fun c450 => absurd c450 (by decide)) (fun c450 => ?_)
              refine q_iload_n rfl rfl rfl ?_
              refine q_bipush rfl rfl ?_
              refine q_icle rfl rfl (fun c451 => ?_) (fun c451 => absurd (i_le_t c16 rfl) c451)
              refine q_iload_n rfl rfl rfl ?_
              refine q_ifge rfl rfl (fun c452 => ?_) (fun c452 => absurd (i_ge_t c17 rfl) c452)
              refine q_aload_n rfl rfl rfl ?_
              refine q_getf rfl rfl (by decide) (FW_46 S hW) rfl ?_
              refine q_iload_n rfl rfl rfl ?_
              refine q_iload_n rfl rfl rfl ?_
              refine q_iast rfl rfl (by decide) (FW_75 S hW) (by decide) ?_
              refine q_aload_n rfl rfl rfl ?_
              refine q_getf rfl rfl (by decide) (FW_46 S hW) rfl ?_
              refine q_iload_n rfl rfl rfl ?_
              refine q_iload_n rfl rfl rfl ?_
              refine q_iast rfl rfl (by decide) (FW_78 S hW) (by decide) ?_
              refine q_aload_n rfl rfl rfl ?_
              refine q_iload_n rfl rfl rfl ?_
              refine q_nV1v rfl rfl (Or.inl rfl) rfl rfl rfl (by decide) (FW_46 S hW) ⟨rfl, rfl⟩ rfl ?_
              change PQ _ _ _ mm_X12_clear 0 [.ref 46, .int 6, pm_un] [] _ _ 0 0 _
              refine q_iconst rfl rfl ?_
              refine q_ist2n rfl rfl rfl rfl ?_
              refine q_iload_n rfl rfl rfl ?_
              refine q_bipush rfl rfl ?_
              refine q_icge rfl rfl (fun c453 => absurd c453 (by decide)) (fun c453 => ?_)
              refine q_aload_n rfl rfl rfl ?_
              refine q_getf rfl rfl (by decide) (FW_46 S hW) rfl ?_
              refine q_bipush rfl rfl ?_
              refine q_iload_n rfl rfl rfl ?_
              refine q_imul rfl rfl (q_tn (z := 360) rfl ?_)
              refine q_iload_n rfl rfl rfl ?_
              refine q_iadd rfl rfl (q_tn (z := 360) rfl ?_)
              refine q_lconst rfl rfl ?_
              refine q_last rfl rfl (by decide) (FW_79 S hW) (by decide) ?_
              refine q_icc2 (z := 1) rfl rfl rfl rfl rfl ?_
              refine q_goto rfl ?_
              refine q_iload_n rfl rfl rfl ?_
              refine q_bipush rfl rfl ?_
              refine q_icge rfl rfl (fun c454 => absurd c454 (by decide)) (fun c454 => ?_)
              refine q_aload_n rfl rfl rfl ?_
              refine q_getf rfl rfl (by decide) (FW_46 S hW) rfl ?_
              refine q_bipush rfl rfl ?_
              refine q_iload_n rfl rfl rfl ?_
              refine q_imul rfl rfl (q_tn (z := 360) rfl ?_)
              refine q_iload_n rfl rfl rfl ?_
              refine q_iadd rfl rfl (q_tn (z := 361) rfl ?_)
              refine q_lconst rfl rfl ?_
              refine q_last rfl rfl (by decide) rfl (by decide) ?_
              refine q_icc2 (z := 2) rfl rfl rfl rfl rfl ?_
              refine q_goto rfl ?_
              refine q_iload_n rfl rfl rfl ?_
              refine q_bipush rfl rfl ?_
              refine q_icge rfl rfl (fun c455 => absurd c455 (by decide)) (fun c455 => ?_)
              refine q_aload_n rfl rfl rfl ?_
              refine q_getf rfl rfl (by decide) (FW_46 S hW) rfl ?_
              refine q_bipush rfl rfl ?_
              refine q_iload_n rfl rfl rfl ?_
              refine q_imul rfl rfl (q_tn (z := 360) rfl ?_)
              refine q_iload_n rfl rfl rfl ?_
              refine q_iadd rfl rfl (q_tn (z := 362) rfl ?_)
              refine q_lconst rfl rfl ?_
              refine q_last rfl rfl (by decide) rfl (by decide) ?_
              refine q_icc2 (z := 3) rfl rfl rfl rfl rfl ?_
              refine q_goto rfl ?_
              refine q_iload_n rfl rfl rfl ?_
              refine q_bipush rfl rfl ?_
              refine q_icge rfl rfl (fun c456 => absurd c456 (by decide)) (fun c456 => ?_)
              refine q_aload_n rfl rfl rfl ?_
              refine q_getf rfl rfl (by decide) (FW_46 S hW) rfl ?_
              refine q_bipush rfl rfl ?_
              refine q_iload_n rfl rfl rfl ?_
              refine q_imul rfl rfl (q_tn (z := 360) rfl ?_)
              refine q_iload_n rfl rfl rfl ?_
              refine q_iadd rfl rfl (q_tn (z := 363) rfl ?_)
              refine q_lconst rfl rfl ?_
              refine q_last rfl rfl (by decide) rfl (by decide) ?_
              refine q_icc2 (z := 4) rfl rfl rfl rfl rfl ?_
              refine q_goto rfl ?_
              refine q_iload_n rfl rfl rfl ?_
              refine q_bipush rfl rfl ?_
              refine q_icge rfl rfl (fun c457 => absurd c457 (by decide)) (fun c457 => ?_)
              refine q_aload_n rfl rfl rfl ?_
              refine q_getf rfl rfl (by decide) (FW_46 S hW) rfl ?_
              refine q_bipush rfl rfl ?_
              refine q_iload_n rfl rfl rfl ?_
              refine q_imul rfl rfl (q_tn (z := 360) rfl ?_)
              refine q_iload_n rfl rfl rfl ?_
              refine q_iadd rfl rfl (q_tn (z := 364) rfl ?_)
              refine q_lconst rfl rfl ?_
              refine q_last rfl rfl (by decide) rfl (by decide) ?_
              refine q_icc2 (z := 5) rfl rfl rfl rfl rfl ?_
              refine q_goto rfl ?_
              refine q_iload_n rfl rfl rfl ?_
              refine q_bipush rfl rfl ?_
              refine q_icge rfl rfl (fun c458 => absurd c458 (by decide)) (fun c458 => ?_)
              refine q_aload_n rfl rfl rfl ?_
              refine q_getf rfl rfl (by decide) (FW_46 S hW) rfl ?_
              refine q_bipush rfl rfl ?_
              refine q_iload_n rfl rfl rfl ?_
              refine q_imul rfl rfl (q_tn (z := 360) rfl ?_)
              refine q_iload_n rfl rfl rfl ?_
              refine q_iadd rfl rfl (q_tn (z := 365) rfl ?_)
              refine q_lconst rfl rfl ?_
              refine q_last rfl rfl (by decide) rfl (by decide) ?_
              refine q_icc2 (z := 6) rfl rfl rfl rfl rfl ?_
              refine q_goto rfl ?_
              refine q_iload_n rfl rfl rfl ?_
              refine q_bipush rfl rfl ?_
              refine q_icge rfl rfl (fun c459 => absurd c459 (by decide)) (fun c459 => ?_)
              refine q_aload_n rfl rfl rfl ?_
              refine q_getf rfl rfl (by decide) (FW_46 S hW) rfl ?_
              refine q_bipush rfl rfl ?_
              refine q_iload_n rfl rfl rfl ?_
              refine q_imul rfl rfl (q_tn (z := 360) rfl ?_)
              refine q_iload_n rfl rfl rfl ?_
              refine q_iadd rfl rfl (q_tn (z := 366) rfl ?_)
              refine q_lconst rfl rfl ?_
              refine q_last rfl rfl (by decide) rfl (by decide) ?_
              refine q_icc2 (z := 7) rfl rfl rfl rfl rfl ?_
              refine q_goto rfl ?_
              refine q_iload_n rfl rfl rfl ?_
              refine q_bipush rfl rfl ?_
              refine q_icge rfl rfl (fun c460 => absurd c460 (by decide)) (fun c460 => ?_)
              refine q_aload_n rfl rfl rfl ?_
              refine q_getf rfl rfl (by decide) (FW_46 S hW) rfl ?_
              refine q_bipush rfl rfl ?_
              refine q_iload_n rfl rfl rfl ?_
              refine q_imul rfl rfl (q_tn (z := 360) rfl ?_)
              refine q_iload_n rfl rfl rfl ?_
              refine q_iadd rfl rfl (q_tn (z := 367) rfl ?_)
              refine q_lconst rfl rfl ?_
              refine q_last rfl rfl (by decide) rfl (by decide) ?_
              refine q_icc2 (z := 8) rfl rfl rfl rfl rfl ?_
              refine q_goto rfl ?_
              refine q_iload_n rfl rfl rfl ?_
              refine q_bipush rfl rfl ?_
              refine q_icge rfl rfl (fun c461 => absurd c461 (by decide)) (fun c461 => ?_)
              refine q_aload_n rfl rfl rfl ?_
              refine q_getf rfl rfl (by decide) (FW_46 S hW) rfl ?_
              refine q_bipush rfl rfl ?_
              refine q_iload_n rfl rfl rfl ?_
              refine q_imul rfl rfl (q_tn (z := 360) rfl ?_)
              refine q_iload_n rfl rfl rfl ?_
              refine q_iadd rfl rfl (q_tn (z := 368) rfl ?_)
              refine q_lconst rfl rfl ?_
              refine q_last rfl rfl (by decide) rfl (by decide) ?_
              refine q_icc2 (z := 9) rfl rfl rfl rfl rfl ?_
              refine q_goto rfl ?_
              refine q_iload_n rfl rfl rfl ?_
              refine q_bipush rfl rfl ?_
              refine q_icge rfl rfl (fun c462 => absurd c462 (by decide)) (fun c462 => ?_)
              refine q_aload_n rfl rfl rfl ?_
              refine q_getf rfl rfl (by decide) (FW_46 S hW) rfl ?_
              refine q_bipush rfl rfl ?_
              refine q_iload_n rfl rfl rfl ?_
              refine q_imul rfl rfl (q_tn (z := 360) rfl ?_)
              refine q_iload_n rfl rfl rfl ?_
              refine q_iadd rfl rfl (q_tn (z := 369) rfl ?_)
              refine q_lconst rfl rfl ?_
              refine q_last rfl rfl (by decide) rfl (by decide) ?_
              refine q_icc2 (z := 10) rfl rfl rfl rfl rfl ?_
              refine q_goto rfl ?_
              refine q_iload_n rfl rfl rfl ?_
              refine q_bipush rfl rfl ?_
              refine q_icge rfl rfl (fun c463 => absurd c463 (by decide)) (fun c463 => ?_)
              refine q_aload_n rfl rfl rfl ?_
              refine q_getf rfl rfl (by decide) (FW_46 S hW) rfl ?_
              refine q_bipush rfl rfl ?_
              refine q_iload_n rfl rfl rfl ?_
              refine q_imul rfl rfl (q_tn (z := 360) rfl ?_)
              refine q_iload_n rfl rfl rfl ?_
              refine q_iadd rfl rfl (q_tn (z := 370) rfl ?_)
              refine q_lconst rfl rfl ?_
              refine q_last rfl rfl (by decide) rfl (by decide) ?_
              refine q_icc2 (z := 11) rfl rfl rfl rfl rfl ?_
              refine q_goto rfl ?_
              refine q_iload_n rfl rfl rfl ?_
              refine q_bipush rfl rfl ?_
              refine q_icge rfl rfl (fun c464 => absurd c464 (by decide)) (fun c464 => ?_)
              refine q_aload_n rfl rfl rfl ?_
              refine q_getf rfl rfl (by decide) (FW_46 S hW) rfl ?_
              refine q_bipush rfl rfl ?_
              refine q_iload_n rfl rfl rfl ?_
              refine q_imul rfl rfl (q_tn (z := 360) rfl ?_)
              refine q_iload_n rfl rfl rfl ?_
              refine q_iadd rfl rfl (q_tn (z := 371) rfl ?_)
              refine q_lconst rfl rfl ?_
              refine q_last rfl rfl (by decide) rfl (by decide) ?_
              refine q_icc2 (z := 12) rfl rfl rfl rfl rfl ?_
              refine q_goto rfl ?_
              refine q_iload_n rfl rfl rfl ?_
              refine q_bipush rfl rfl ?_
              refine q_icge rfl rfl (fun c465 => absurd c465 (by decide)) (fun c465 => ?_)
              refine q_aload_n rfl rfl rfl ?_
              refine q_getf rfl rfl (by decide) (FW_46 S hW) rfl ?_
              refine q_bipush rfl rfl ?_
              refine q_iload_n rfl rfl rfl ?_
              refine q_imul rfl rfl (q_tn (z := 360) rfl ?_)
              refine q_iload_n rfl rfl rfl ?_
              refine q_iadd rfl rfl (q_tn (z := 372) rfl ?_)
              refine q_lconst rfl rfl ?_
              refine q_last rfl rfl (by decide) rfl (by decide) ?_
              refine q_icc2 (z := 13) rfl rfl rfl rfl rfl ?_
              refine q_goto rfl ?_
              refine q_iload_n rfl rfl rfl ?_
              refine q_bipush rfl rfl ?_
              refine q_icge rfl rfl (fun c466 => absurd c466 (by decide)) (fun c466 => ?_)
              refine q_aload_n rfl rfl rfl ?_
              refine q_getf rfl rfl (by decide) (FW_46 S hW) rfl ?_
              refine q_bipush rfl rfl ?_
              refine q_iload_n rfl rfl rfl ?_
              refine q_imul rfl rfl (q_tn (z := 360) rfl ?_)
              refine q_iload_n rfl rfl rfl ?_
              refine q_iadd rfl rfl (q_tn (z := 373) rfl ?_)
              refine q_lconst rfl rfl ?_
              refine q_last rfl rfl (by decide) rfl (by decide) ?_
              refine q_icc2 (z := 14) rfl rfl rfl rfl rfl ?_
              refine q_goto rfl ?_
              refine q_iload_n rfl rfl rfl ?_
              refine q_bipush rfl rfl ?_
              refine q_icge rfl rfl (fun c467 => absurd c467 (by decide)) (fun c467 => ?_)
              refine q_aload_n rfl rfl rfl ?_
              refine q_getf rfl rfl (by decide) (FW_46 S hW) rfl ?_
              refine q_bipush rfl rfl ?_
              refine q_iload_n rfl rfl rfl ?_
              refine q_imul rfl rfl (q_tn (z := 360) rfl ?_)
              refine q_iload_n rfl rfl rfl ?_
              refine q_iadd rfl rfl (q_tn (z := 374) rfl ?_)
              refine q_lconst rfl rfl ?_
              refine q_last rfl rfl (by decide) rfl (by decide) ?_
              refine q_icc2 (z := 15) rfl rfl rfl rfl rfl ?_
              refine q_goto rfl ?_
              refine q_iload_n rfl rfl rfl ?_
              refine q_bipush rfl rfl ?_
              refine q_icge rfl rfl (fun c468 => absurd c468 (by decide)) (fun c468 => ?_)
              refine q_aload_n rfl rfl rfl ?_
              refine q_getf rfl rfl (by decide) (FW_46 S hW) rfl ?_
              refine q_bipush rfl rfl ?_
              refine q_iload_n rfl rfl rfl ?_
              refine q_imul rfl rfl (q_tn (z := 360) rfl ?_)
              refine q_iload_n rfl rfl rfl ?_
              refine q_iadd rfl rfl (q_tn (z := 375) rfl ?_)
              refine q_lconst rfl rfl ?_
              refine q_last rfl rfl (by decide) rfl (by decide) ?_
              refine q_icc2 (z := 16) rfl rfl rfl rfl rfl ?_
              refine q_goto rfl ?_
              refine q_iload_n rfl rfl rfl ?_
              refine q_bipush rfl rfl ?_
              refine q_icge rfl rfl (fun c469 => absurd c469 (by decide)) (fun c469 => ?_)
              refine q_aload_n rfl rfl rfl ?_
              refine q_getf rfl rfl (by decide) (FW_46 S hW) rfl ?_
              refine q_bipush rfl rfl ?_
              refine q_iload_n rfl rfl rfl ?_
              refine q_imul rfl rfl (q_tn (z := 360) rfl ?_)
              refine q_iload_n rfl rfl rfl ?_
              refine q_iadd rfl rfl (q_tn (z := 376) rfl ?_)
              refine q_lconst rfl rfl ?_
              refine q_last rfl rfl (by decide) rfl (by decide) ?_
              refine q_icc2 (z := 17) rfl rfl rfl rfl rfl ?_
              refine q_goto rfl ?_
              refine q_iload_n rfl rfl rfl ?_
              refine q_bipush rfl rfl ?_
              refine q_icge rfl rfl (fun c470 => absurd c470 (by decide)) (fun c470 => ?_)
              refine q_aload_n rfl rfl rfl ?_
              refine q_getf rfl rfl (by decide) (FW_46 S hW) rfl ?_
              refine q_bipush rfl rfl ?_
              refine q_iload_n rfl rfl rfl ?_
              refine q_imul rfl rfl (q_tn (z := 360) rfl ?_)
              refine q_iload_n rfl rfl rfl ?_
              refine q_iadd rfl rfl (q_tn (z := 377) rfl ?_)
              refine q_lconst rfl rfl ?_
              refine q_last rfl rfl (by decide) rfl (by decide) ?_
              refine q_icc2 (z := 18) rfl rfl rfl rfl rfl ?_
              refine q_goto rfl ?_
              refine q_iload_n rfl rfl rfl ?_
              refine q_bipush rfl rfl ?_
              refine q_icge rfl rfl (fun c471 => absurd c471 (by decide)) (fun c471 => ?_)
              refine q_aload_n rfl rfl rfl ?_
              refine q_getf rfl rfl (by decide) (FW_46 S hW) rfl ?_
              refine q_bipush rfl rfl ?_
              refine q_iload_n rfl rfl rfl ?_
              refine q_imul rfl rfl (q_tn (z := 360) rfl ?_)
              refine q_iload_n rfl rfl rfl ?_
              refine q_iadd rfl rfl (q_tn (z := 378) rfl ?_)
              refine q_lconst rfl rfl ?_
              refine q_last rfl rfl (by decide) rfl (by decide) ?_
              refine q_icc2 (z := 19) rfl rfl rfl rfl rfl ?_
              refine q_goto rfl ?_
              refine q_iload_n rfl rfl rfl ?_
              refine q_bipush rfl rfl ?_
              refine q_icge rfl rfl (fun c472 => absurd c472 (by decide)) (fun c472 => ?_)
              refine q_aload_n rfl rfl rfl ?_
              refine q_getf rfl rfl (by decide) (FW_46 S hW) rfl ?_
              refine q_bipush rfl rfl ?_
              refine q_iload_n rfl rfl rfl ?_
              refine q_imul rfl rfl (q_tn (z := 360) rfl ?_)
              refine q_iload_n rfl rfl rfl ?_
              refine q_iadd rfl rfl (q_tn (z := 379) rfl ?_)
              refine q_lconst rfl rfl ?_
              refine q_last rfl rfl (by decide) rfl (by decide) ?_
              refine q_icc2 (z := 20) rfl rfl rfl rfl rfl ?_
              refine q_goto rfl ?_
              refine q_iload_n rfl rfl rfl ?_
              refine q_bipush rfl rfl ?_
              refine q_icge rfl rfl (fun c473 => absurd c473 (by decide)) (fun c473 => ?_)
              refine q_aload_n rfl rfl rfl ?_
              refine q_getf rfl rfl (by decide) (FW_46 S hW) rfl ?_
              refine q_bipush rfl rfl ?_
              refine q_iload_n rfl rfl rfl ?_
              refine q_imul rfl rfl (q_tn (z := 360) rfl ?_)
              refine q_iload_n rfl rfl rfl ?_
              refine q_iadd rfl rfl (q_tn (z := 380) rfl ?_)
              refine q_lconst rfl rfl ?_
              refine q_last rfl rfl (by decide) rfl (by decide) ?_
              refine q_icc2 (z := 21) rfl rfl rfl rfl rfl ?_
              refine q_goto rfl ?_
              refine q_iload_n rfl rfl rfl ?_
              refine q_bipush rfl rfl ?_
              refine q_icge rfl rfl (fun c474 => absurd c474 (by decide)) (fun c474 => ?_)
              refine q_aload_n rfl rfl rfl ?_
              refine q_getf rfl rfl (by decide) (FW_46 S hW) rfl ?_
              refine q_bipush rfl rfl ?_
              refine q_iload_n rfl rfl rfl ?_
              refine q_imul rfl rfl (q_tn (z := 360) rfl ?_)
              refine q_iload_n rfl rfl rfl ?_
              refine q_iadd rfl rfl (q_tn (z := 381) rfl ?_)
              refine q_lconst rfl rfl ?_
              refine q_last rfl rfl (by decide) rfl (by decide) ?_
              refine q_icc2 (z := 22) rfl rfl rfl rfl rfl ?_
              refine q_goto rfl ?_
              refine q_iload_n rfl rfl rfl ?_
              refine q_bipush rfl rfl ?_
              refine q_icge rfl rfl (fun c475 => absurd c475 (by decide)) (fun c475 => ?_)
              refine q_aload_n rfl rfl rfl ?_
              refine q_getf rfl rfl (by decide) (FW_46 S hW) rfl ?_
              refine q_bipush rfl rfl ?_
              refine q_iload_n rfl rfl rfl ?_
              refine q_imul rfl rfl (q_tn (z := 360) rfl ?_)
              refine q_iload_n rfl rfl rfl ?_
              refine q_iadd rfl rfl (q_tn (z := 382) rfl ?_)
              refine q_lconst rfl rfl ?_
              refine q_last rfl rfl (by decide) rfl (by decide) ?_
              refine q_icc2 (z := 23) rfl rfl rfl rfl rfl ?_
              refine q_goto rfl ?_
              refine q_iload_n rfl rfl rfl ?_
              refine q_bipush rfl rfl ?_
              refine q_icge rfl rfl (fun c476 => absurd c476 (by decide)) (fun c476 => ?_)
              refine q_aload_n rfl rfl rfl ?_
              refine q_getf rfl rfl (by decide) (FW_46 S hW) rfl ?_
              refine q_bipush rfl rfl ?_
              refine q_iload_n rfl rfl rfl ?_
              refine q_imul rfl rfl (q_tn (z := 360) rfl ?_)
              refine q_iload_n rfl rfl rfl ?_
              refine q_iadd rfl rfl (q_tn (z := 383) rfl ?_)
              refine q_lconst rfl rfl ?_
              refine q_last rfl rfl (by decide) rfl (by decide) ?_
              refine q_icc2 (z := 24) rfl rfl rfl rfl rfl ?_
              refine q_goto rfl ?_
              refine q_iload_n rfl rfl rfl ?_
              refine q_bipush rfl rfl ?_
              refine q_icge rfl rfl (fun c477 => absurd c477 (by decide)) (fun c477 => ?_)
              refine q_aload_n rfl rfl rfl ?_
              refine q_getf rfl rfl (by decide) (FW_46 S hW) rfl ?_
              refine q_bipush rfl rfl ?_
              refine q_iload_n rfl rfl rfl ?_
              refine q_imul rfl rfl (q_tn (z := 360) rfl ?_)
              refine q_iload_n rfl rfl rfl ?_
              refine q_iadd rfl rfl (q_tn (z := 384) rfl ?_)
              refine q_lconst rfl rfl ?_
              refine q_last rfl rfl (by decide) rfl (by decide) ?_
              refine q_icc2 (z := 25) rfl rfl rfl rfl rfl ?_
              refine q_goto rfl ?_
              refine q_iload_n rfl rfl rfl ?_
              refine q_bipush rfl rfl ?_
              refine q_icge rfl rfl (fun c478 => absurd c478 (by decide)) (fun c478 => ?_)
              refine q_aload_n rfl rfl rfl ?_
              refine q_getf rfl rfl (by decide) (FW_46 S hW) rfl ?_
              refine q_bipush rfl rfl ?_
              refine q_iload_n rfl rfl rfl ?_
              refine q_imul rfl rfl (q_tn (z := 360) rfl ?_)
              refine q_iload_n rfl rfl rfl ?_
              refine q_iadd rfl rfl (q_tn (z := 385) rfl ?_)
              refine q_lconst rfl rfl ?_
              refine q_last rfl rfl (by decide) rfl (by decide) ?_
              refine q_icc2 (z := 26) rfl rfl rfl rfl rfl ?_
              refine q_goto rfl ?_
              refine q_iload_n rfl rfl rfl ?_
              refine q_bipush rfl rfl ?_
              refine q_icge rfl rfl (fun c479 => absurd c479 (by decide)) (fun c479 => ?_)
              refine q_aload_n rfl rfl rfl ?_
              refine q_getf rfl rfl (by decide) (FW_46 S hW) rfl ?_
              refine q_bipush rfl rfl ?_
              refine q_iload_n rfl rfl rfl ?_
              refine q_imul rfl rfl (q_tn (z := 360) rfl ?_)
              refine q_iload_n rfl rfl rfl ?_
              refine q_iadd rfl rfl (q_tn (z := 386) rfl ?_)
              refine q_lconst rfl rfl ?_
              refine q_last rfl rfl (by decide) rfl (by decide) ?_
              refine q_icc2 (z := 27) rfl rfl rfl rfl rfl ?_
              refine q_goto rfl ?_
              refine q_iload_n rfl rfl rfl ?_
              refine q_bipush rfl rfl ?_
              refine q_icge rfl rfl (fun c480 => absurd c480 (by decide)) (fun c480 => ?_)
              refine q_aload_n rfl rfl rfl ?_
              refine q_getf rfl rfl (by decide) (FW_46 S hW) rfl ?_
              refine q_bipush rfl rfl ?_
              refine q_iload_n rfl rfl rfl ?_
              refine q_imul rfl rfl (q_tn (z := 360) rfl ?_)
              refine q_iload_n rfl rfl rfl ?_
              refine q_iadd rfl rfl (q_tn (z := 387) rfl ?_)
              refine q_lconst rfl rfl ?_
              refine q_last rfl rfl (by decide) rfl (by decide) ?_
              refine q_icc2 (z := 28) rfl rfl rfl rfl rfl ?_
              refine q_goto rfl ?_
              refine q_iload_n rfl rfl rfl ?_
              refine q_bipush rfl rfl ?_
              refine q_icge rfl rfl (fun c481 => absurd c481 (by decide)) (fun c481 => ?_)
              refine q_aload_n rfl rfl rfl ?_
              refine q_getf rfl rfl (by decide) (FW_46 S hW) rfl ?_
              refine q_bipush rfl rfl ?_
              refine q_iload_n rfl rfl rfl ?_
              refine q_imul rfl rfl (q_tn (z := 360) rfl ?_)
              refine q_iload_n rfl rfl rfl ?_
              refine q_iadd rfl rfl (q_tn (z := 388) rfl ?_)
              refine q_lconst rfl rfl ?_
              refine q_last rfl rfl (by decide) rfl (by decide) ?_
              refine q_icc2 (z := 29) rfl rfl rfl rfl rfl ?_
              refine q_goto rfl ?_
              refine q_iload_n rfl rfl rfl ?_
              refine q_bipush rfl rfl ?_
              refine q_icge rfl rfl (fun c482 => absurd c482 (by decide)) (fun c482 => ?_)
              refine q_aload_n rfl rfl rfl ?_
              refine q_getf rfl rfl (by decide) (FW_46 S hW) rfl ?_
              refine q_bipush rfl rfl ?_
              refine q_iload_n rfl rfl rfl ?_
              refine q_imul rfl rfl (q_tn (z := 360) rfl ?_)
              refine q_iload_n rfl rfl rfl ?_
              refine q_iadd rfl rfl (q_tn (z := 389) rfl ?_)
              refine q_lconst rfl rfl ?_
              refine q_last rfl rfl (by decide) rfl (by decide) ?_
              refine q_icc2 (z := 30) rfl rfl rfl rfl rfl ?_
              refine q_goto rfl ?_
              refine q_iload_n rfl rfl rfl ?_
              refine q_bipush rfl rfl ?_
              refine q_icge rfl rfl (fun c483 => absurd c483 (by decide)) (fun c483 => ?_)
              refine q_aload_n rfl rfl rfl ?_
              refine q_getf rfl rfl (by decide) (FW_46 S hW) rfl ?_
              refine q_bipush rfl rfl ?_
              refine q_iload_n rfl rfl rfl ?_
              refine q_imul rfl rfl (q_tn (z := 360) rfl ?_)
              refine q_iload_n rfl rfl rfl ?_
              refine q_iadd rfl rfl (q_tn (z := 390) rfl ?_)
              refine q_lconst rfl rfl ?_
              refine q_last rfl rfl (by decide) rfl (by decide) ?_
              refine q_icc2 (z := 31) rfl rfl rfl rfl rfl ?_
              refine q_goto rfl ?_
              refine q_iload_n rfl rfl rfl ?_
              refine q_bipush rfl rfl ?_
              refine q_icge rfl rfl (fun c484 => absurd c484 (by decide)) (fun c484 => ?_)
              refine q_aload_n rfl rfl rfl ?_
              refine q_getf rfl rfl (by decide) (FW_46 S hW) rfl ?_
              refine q_bipush rfl rfl ?_
              refine q_iload_n rfl rfl rfl ?_
              refine q_imul rfl rfl (q_tn (z := 360) rfl ?_)
              refine q_iload_n rfl rfl rfl ?_
              refine q_iadd rfl rfl (q_tn (z := 391) rfl ?_)
              refine q_lconst rfl rfl ?_
              refine q_last rfl rfl (by decide) rfl (by decide) ?_
              refine q_icc2 (z := 32) rfl rfl rfl rfl rfl ?_
              refine q_goto rfl ?_
              refine q_iload_n rfl rfl rfl ?_
              refine q_bipush rfl rfl ?_
              refine q_icge rfl rfl (fun c485 => absurd c485 (by decide)) (fun c485 => ?_)
              refine q_aload_n rfl rfl rfl ?_
              refine q_getf rfl rfl (by decide) (FW_46 S hW) rfl ?_
              refine q_bipush rfl rfl ?_
              refine q_iload_n rfl rfl rfl ?_
              refine q_imul rfl rfl (q_tn (z := 360) rfl ?_)
              refine q_iload_n rfl rfl rfl ?_
              refine q_iadd rfl rfl (q_tn (z := 392) rfl ?_)
              refine q_lconst rfl rfl ?_
              refine q_last rfl rfl (by decide) rfl (by decide) ?_
              refine q_icc2 (z := 33) rfl rfl rfl rfl rfl ?_
              refine q_goto rfl ?_
              refine q_iload_n rfl rfl rfl ?_
              refine q_bipush rfl rfl ?_
              refine q_icge rfl rfl (fun c486 => absurd c486 (by decide)) (fun c486 => ?_)
              refine q_aload_n rfl rfl rfl ?_
              refine q_getf rfl rfl (by decide) (FW_46 S hW) rfl ?_
              refine q_bipush rfl rfl ?_
              refine q_iload_n rfl rfl rfl ?_
              refine q_imul rfl rfl (q_tn (z := 360) rfl ?_)
              refine q_iload_n rfl rfl rfl ?_
              refine q_iadd rfl rfl (q_tn (z := 393) rfl ?_)
              refine q_lconst rfl rfl ?_
              refine q_last rfl rfl (by decide) rfl (by decide) ?_
              refine q_icc2 (z := 34) rfl rfl rfl rfl rfl ?_
              refine q_goto rfl ?_
              refine q_iload_n rfl rfl rfl ?_
              refine q_bipush rfl rfl ?_
              refine q_icge rfl rfl (fun c487 => absurd c487 (by decide)) (fun c487 => ?_)
              refine q_aload_n rfl rfl rfl ?_
              refine q_getf rfl rfl (by decide) (FW_46 S hW) rfl ?_
              refine q_bipush rfl rfl ?_
              refine q_iload_n rfl rfl rfl ?_
              refine q_imul rfl rfl (q_tn (z := 360) rfl ?_)
              refine q_iload_n rfl rfl rfl ?_
              refine q_iadd rfl rfl (q_tn (z := 394) rfl ?_)
              refine q_lconst rfl rfl ?_
              refine q_last rfl rfl (by decide) rfl (by decide) ?_
              refine q_icc2 (z := 35) rfl rfl rfl rfl rfl ?_
              refine q_goto rfl ?_
              refine q_iload_n rfl rfl rfl ?_
              refine q_bipush rfl rfl ?_
              refine q_icge rfl rfl (fun c488 => absurd c488 (by decide)) (fun c488 => ?_)
              refine q_aload_n rfl rfl rfl ?_
              refine q_getf rfl rfl (by decide) (FW_46 S hW) rfl ?_
              refine q_bipush rfl rfl ?_
              refine q_iload_n rfl rfl rfl ?_
              refine q_imul rfl rfl (q_tn (z := 360) rfl ?_)
              refine q_iload_n rfl rfl rfl ?_
              refine q_iadd rfl rfl (q_tn (z := 395) rfl ?_)
              refine q_lconst rfl rfl ?_
              refine q_last rfl rfl (by decide) rfl (by decide) ?_
              refine q_icc2 (z := 36) rfl rfl rfl rfl rfl ?_
              refine q_goto rfl ?_
              refine q_iload_n rfl rfl rfl ?_
              refine q_bipush rfl rfl ?_
              refine q_icge rfl rfl (fun c489 => absurd c489 (by decide)) (fun c489 => ?_)
              refine q_aload_n rfl rfl rfl ?_
              refine q_getf rfl rfl (by decide) (FW_46 S hW) rfl ?_
              refine q_bipush rfl rfl ?_
              refine q_iload_n rfl rfl rfl ?_
              refine q_imul rfl rfl (q_tn (z := 360) rfl ?_)
              refine q_iload_n rfl rfl rfl ?_
              refine q_iadd rfl rfl (q_tn (z := 396) rfl ?_)
              refine q_lconst rfl rfl ?_
              refine q_last rfl rfl (by decide) rfl (by decide) ?_
              refine q_icc2 (z := 37) rfl rfl rfl rfl rfl ?_
              refine q_goto rfl ?_
              refine q_iload_n rfl rfl rfl ?_
              refine q_bipush rfl rfl ?_
              refine q_icge rfl rfl (fun c490 => absurd c490 (by decide)) (fun c490 => ?_)
              refine q_aload_n rfl rfl rfl ?_
              refine q_getf rfl rfl (by decide) (FW_46 S hW) rfl ?_
              refine q_bipush rfl rfl ?_
              refine q_iload_n rfl rfl rfl ?_
              refine q_imul rfl rfl (q_tn (z := 360) rfl ?_)
              refine q_iload_n rfl rfl rfl ?_
              refine q_iadd rfl rfl (q_tn (z := 397) rfl ?_)
              refine q_lconst rfl rfl ?_
              refine q_last rfl rfl (by decide) rfl (by decide) ?_
              refine q_icc2 (z := 38) rfl rfl rfl rfl rfl ?_
              refine q_goto rfl ?_
              refine q_iload_n rfl rfl rfl ?_
              refine q_bipush rfl rfl ?_
              refine q_icge rfl rfl (fun c491 => absurd c491 (by decide)) (fun c491 => ?_)
              refine q_aload_n rfl rfl rfl ?_
              refine q_getf rfl rfl (by decide) (FW_46 S hW) rfl ?_
              refine q_bipush rfl rfl ?_
              refine q_iload_n rfl rfl rfl ?_
              refine q_imul rfl rfl (q_tn (z := 360) rfl ?_)
              refine q_iload_n rfl rfl rfl ?_
              refine q_iadd rfl rfl (q_tn (z := 398) rfl ?_)
              refine q_lconst rfl rfl ?_
              refine q_last rfl rfl (by decide) rfl (by decide) ?_
              refine q_icc2 (z := 39) rfl rfl rfl rfl rfl ?_
              refine q_goto rfl ?_
              refine q_iload_n rfl rfl rfl ?_
              refine q_bipush rfl rfl ?_
              refine q_icge rfl rfl (fun c492 => absurd c492 (by decide)) (fun c492 => ?_)
              refine q_aload_n rfl rfl rfl ?_
              refine q_getf rfl rfl (by decide) (FW_46 S hW) rfl ?_
              refine q_bipush rfl rfl ?_
              refine q_iload_n rfl rfl rfl ?_
              refine q_imul rfl rfl (q_tn (z := 360) rfl ?_)
              refine q_iload_n rfl rfl rfl ?_
              refine q_iadd rfl rfl (q_tn (z := 399) rfl ?_)
              refine q_lconst rfl rfl ?_
              refine q_last rfl rfl (by decide) rfl (by decide) ?_
              refine q_icc2 (z := 40) rfl rfl rfl rfl rfl ?_
              refine q_goto rfl ?_
              refine q_iload_n rfl rfl rfl ?_
              refine q_bipush rfl rfl ?_
              refine q_icge rfl rfl (fun c493 => absurd c493 (by decide)) (fun c493 => ?_)
              refine q_aload_n rfl rfl rfl ?_
              refine q_getf rfl rfl (by decide) (FW_46 S hW) rfl ?_
              refine q_bipush rfl rfl ?_
              refine q_iload_n rfl rfl rfl ?_
              refine q_imul rfl rfl (q_tn (z := 360) rfl ?_)
              refine q_iload_n rfl rfl rfl ?_
              refine q_iadd rfl rfl (q_tn (z := 400) rfl ?_)
              refine q_lconst rfl rfl ?_
              refine q_last rfl rfl (by decide) rfl (by decide) ?_
              refine q_icc2 (z := 41) rfl rfl rfl rfl rfl ?_
              refine q_goto rfl ?_
              refine q_iload_n rfl rfl rfl ?_
              refine q_bipush rfl rfl ?_
              refine q_icge rfl rfl (fun c494 => absurd c494 (by decide)) (fun c494 => ?_)
              refine q_aload_n rfl rfl rfl ?_
              refine q_getf rfl rfl (by decide) (FW_46 S hW) rfl ?_
              refine q_bipush rfl rfl ?_
              refine q_iload_n rfl rfl rfl ?_
              refine q_imul rfl rfl (q_tn (z := 360) rfl ?_)
              refine q_iload_n rfl rfl rfl ?_
              refine q_iadd rfl rfl (q_tn (z := 401) rfl ?_)
              refine q_lconst rfl rfl ?_
              refine q_last rfl rfl (by decide) rfl (by decide) ?_
              refine q_icc2 (z := 42) rfl rfl rfl rfl rfl ?_
              refine q_goto rfl ?_
              refine q_iload_n rfl rfl rfl ?_
              refine q_bipush rfl rfl ?_
              refine q_icge rfl rfl (fun c495 => absurd c495 (by decide)) (fun c495 => ?_)
              refine q_aload_n rfl rfl rfl ?_
              refine q_getf rfl rfl (by decide) (FW_46 S hW) rfl ?_
              refine q_bipush rfl rfl ?_
              refine q_iload_n rfl rfl rfl ?_
              refine q_imul rfl rfl (q_tn (z := 360) rfl ?_)
              refine q_iload_n rfl rfl rfl ?_
              refine q_iadd rfl rfl (q_tn (z := 402) rfl ?_)
              refine q_lconst rfl rfl ?_
              refine q_last rfl rfl (by decide) rfl (by decide) ?_
              refine q_icc2 (z := 43) rfl rfl rfl rfl rfl ?_
              refine q_goto rfl ?_
              refine q_iload_n rfl rfl rfl ?_
              refine q_bipush rfl rfl ?_
              refine q_icge rfl rfl (fun c496 => absurd c496 (by decide)) (fun c496 => ?_)
              refine q_aload_n rfl rfl rfl ?_
              refine q_getf rfl rfl (by decide) (FW_46 S hW) rfl ?_
              refine q_bipush rfl rfl ?_
              refine q_iload_n rfl rfl rfl ?_
              refine q_imul rfl rfl (q_tn (z := 360) rfl ?_)
              refine q_iload_n rfl rfl rfl ?_
              refine q_iadd rfl rfl (q_tn (z := 403) rfl ?_)
              refine q_lconst rfl rfl ?_
              refine q_last rfl rfl (by decide) rfl (by decide) ?_
              refine q_icc2 (z := 44) rfl rfl rfl rfl rfl ?_
              refine q_goto rfl ?_
              refine q_iload_n rfl rfl rfl ?_
              refine q_bipush rfl rfl ?_
              refine q_icge rfl rfl (fun c497 => absurd c497 (by decide)) (fun c497 => ?_)
              refine q_aload_n rfl rfl rfl ?_
              refine q_getf rfl rfl (by decide) (FW_46 S hW) rfl ?_
              refine q_bipush rfl rfl ?_
              refine q_iload_n rfl rfl rfl ?_
              refine q_imul rfl rfl (q_tn (z := 360) rfl ?_)
              refine q_iload_n rfl rfl rfl ?_
              refine q_iadd rfl rfl (q_tn (z := 404) rfl ?_)
              refine q_lconst rfl rfl ?_
              refine q_last rfl rfl (by decide) rfl (by decide) ?_
              refine q_icc2 (z := 45) rfl rfl rfl rfl rfl ?_
              refine q_goto rfl ?_
              refine q_iload_n rfl rfl rfl ?_
              refine q_bipush rfl rfl ?_
              refine q_icge rfl rfl (fun c498 => absurd c498 (by decide)) (fun c498 => ?_)
              refine q_aload_n rfl rfl rfl ?_
              refine q_getf rfl rfl (by decide) (FW_46 S hW) rfl ?_
              refine q_bipush rfl rfl ?_
              refine q_iload_n rfl rfl rfl ?_
              refine q_imul rfl rfl (q_tn (z := 360) rfl ?_)
              refine q_iload_n rfl rfl rfl ?_
              refine q_iadd rfl rfl (q_tn (z := 405) rfl ?_)
              refine q_lconst rfl rfl ?_
              refine q_last rfl rfl (by decide) rfl (by decide) ?_
              refine q_icc2 (z := 46) rfl rfl rfl rfl rfl ?_
              refine q_goto rfl ?_
              refine q_iload_n rfl rfl rfl ?_
              refine q_bipush rfl rfl ?_
              refine q_icge rfl rfl (fun c499 => absurd c499 (by decide)) (fun c499 => ?_)
              refine q_aload_n rfl rfl rfl ?_
              refine q_getf rfl rfl (by decide) (FW_46 S hW) rfl ?_
              refine q_bipush rfl rfl ?_
              refine q_iload_n rfl rfl rfl ?_
              refine q_imul rfl rfl (q_tn (z := 360) rfl ?_)
              refine q_iload_n rfl rfl rfl ?_
              refine q_iadd rfl rfl (q_tn (z := 406) rfl ?_)
              refine q_lconst rfl rfl ?_
              refine q_last rfl rfl (by decide) rfl (by decide) ?_
              refine q_icc2 (z := 47) rfl rfl rfl rfl rfl ?_
              refine q_goto rfl ?_
              refine q_iload_n rfl rfl rfl ?_
              refine q_bipush rfl rfl ?_
              refine q_icge rfl rfl (fun c500 => absurd c500 (by decide)) (fun c500 => ?_)
              refine q_aload_n rfl rfl rfl ?_
              refine q_getf rfl rfl (by decide) (FW_46 S hW) rfl ?_
              refine q_bipush rfl rfl ?_
              refine q_iload_n rfl rfl rfl ?_
              refine q_imul rfl rfl (q_tn (z := 360) rfl ?_)
              refine q_iload_n rfl rfl rfl ?_
              refine q_iadd rfl rfl (q_tn (z := 407) rfl ?_)
              refine q_lconst rfl rfl ?_
              refine q_last rfl rfl (by decide) rfl (by decide) ?_
              refine q_icc2 (z := 48) rfl rfl rfl rfl rfl ?_
              refine q_goto rfl ?_
              refine q_iload_n rfl rfl rfl ?_
              refine q_bipush rfl rfl ?_
              refine q_icge rfl rfl (fun c501 => absurd c501 (by decide)) (fun c501 => ?_)
              refine q_aload_n rfl rfl rfl ?_
              refine q_getf rfl rfl (by decide) (FW_46 S hW) rfl ?_
              refine q_bipush rfl rfl ?_
              refine q_iload_n rfl rfl rfl ?_
              refine q_imul rfl rfl (q_tn (z := 360) rfl ?_)
              refine q_iload_n rfl rfl rfl ?_
              refine q_iadd rfl rfl (q_tn (z := 408) rfl ?_)
              refine q_lconst rfl rfl ?_
              refine q_last rfl rfl (by decide) rfl (by decide) ?_
              refine q_icc2 (z := 49) rfl rfl rfl rfl rfl ?_
              refine q_goto rfl ?_
              refine q_iload_n rfl rfl rfl ?_
              refine q_bipush rfl rfl ?_
              refine q_icge rfl rfl (fun c502 => absurd c502 (by decide)) (fun c502 => ?_)
              refine q_aload_n rfl rfl rfl ?_
              refine q_getf rfl rfl (by decide) (FW_46 S hW) rfl ?_
              refine q_bipush rfl rfl ?_
              refine q_iload_n rfl rfl rfl ?_
              refine q_imul rfl rfl (q_tn (z := 360) rfl ?_)
              refine q_iload_n rfl rfl rfl ?_
              refine q_iadd rfl rfl (q_tn (z := 409) rfl ?_)
              refine q_lconst rfl rfl ?_
              refine q_last rfl rfl (by decide) rfl (by decide) ?_
              refine q_icc2 (z := 50) rfl rfl rfl rfl rfl ?_
              refine q_goto rfl ?_
              refine q_iload_n rfl rfl rfl ?_
              refine q_bipush rfl rfl ?_
              refine q_icge rfl rfl (fun c503 => absurd c503 (by decide)) (fun c503 => ?_)
              refine q_aload_n rfl rfl rfl ?_
              refine q_getf rfl rfl (by decide) (FW_46 S hW) rfl ?_
              refine q_bipush rfl rfl ?_
              refine q_iload_n rfl rfl rfl ?_
              refine q_imul rfl rfl (q_tn (z := 360) rfl ?_)
              refine q_iload_n rfl rfl rfl ?_
              refine q_iadd rfl rfl (q_tn (z := 410) rfl ?_)
              refine q_lconst rfl rfl ?_
              refine q_last rfl rfl (by decide) rfl (by decide) ?_
              refine q_icc2 (z := 51) rfl rfl rfl rfl rfl ?_
              refine q_goto rfl ?_
              refine q_iload_n rfl rfl rfl ?_
              refine q_bipush rfl rfl ?_
              refine q_icge rfl rfl (fun c504 => absurd c504 (by decide)) (fun c504 => ?_)
              refine q_aload_n rfl rfl rfl ?_
              refine q_getf rfl rfl (by decide) (FW_46 S hW) rfl ?_
              refine q_bipush rfl rfl ?_
              refine q_iload_n rfl rfl rfl ?_
              refine q_imul rfl rfl (q_tn (z := 360) rfl ?_)
              refine q_iload_n rfl rfl rfl ?_
              refine q_iadd rfl rfl (q_tn (z := 411) rfl ?_)
              refine q_lconst rfl rfl ?_
              refine q_last rfl rfl (by decide) rfl (by decide) ?_
              refine q_icc2 (z := 52) rfl rfl rfl rfl rfl ?_
              refine q_goto rfl ?_
              refine q_iload_n rfl rfl rfl ?_
              refine q_bipush rfl rfl ?_
              refine q_icge rfl rfl (fun c505 => absurd c505 (by decide)) (fun c505 => ?_)
              refine q_aload_n rfl rfl rfl ?_
              refine q_getf rfl rfl (by decide) (FW_46 S hW) rfl ?_
              refine q_bipush rfl rfl ?_
              refine q_iload_n rfl rfl rfl ?_
              refine q_imul rfl rfl (q_tn (z := 360) rfl ?_)
              refine q_iload_n rfl rfl rfl ?_
              refine q_iadd rfl rfl (q_tn (z := 412) rfl ?_)
              refine q_lconst rfl rfl ?_
              refine q_last rfl rfl (by decide) rfl (by decide) ?_
              refine q_icc2 (z := 53) rfl rfl rfl rfl rfl ?_
              refine q_goto rfl ?_
              refine q_iload_n rfl rfl rfl ?_
              refine q_bipush rfl rfl ?_
              refine q_icge rfl rfl (fun c506 => absurd c506 (by decide)) (fun c506 => ?_)
              refine q_aload_n rfl rfl rfl ?_
              refine q_getf rfl rfl (by decide) (FW_46 S hW) rfl ?_
              refine q_bipush rfl rfl ?_
              refine q_iload_n rfl rfl rfl ?_
              refine q_imul rfl rfl (q_tn (z := 360) rfl ?_)
              refine q_iload_n rfl rfl rfl ?_
              refine q_iadd rfl rfl (q_tn (z := 413) rfl ?_)
              refine q_lconst rfl rfl ?_
              refine q_last rfl rfl (by decide) rfl (by decide) ?_
              refine q_icc2 (z := 54) rfl rfl rfl rfl rfl ?_
              refine q_goto rfl ?_
              refine q_iload_n rfl rfl rfl ?_
              refine q_bipush rfl rfl ?_
              refine q_icge rfl rfl (fun c507 => absurd c507 (by decide)) (fun c507 => ?_)
              refine q_aload_n rfl rfl rfl ?_
              refine q_getf rfl rfl (by decide) (FW_46 S hW) rfl ?_
              refine q_bipush rfl rfl ?_
              refine q_iload_n rfl rfl rfl ?_
              refine q_imul rfl rfl (q_tn (z := 360) rfl ?_)
              refine q_iload_n rfl rfl rfl ?_
              refine q_iadd rfl rfl (q_tn (z := 414) rfl ?_)
              refine q_lconst rfl rfl ?_
              refine q_last rfl rfl (by decide) rfl (by decide) ?_
              refine q_icc2 (z := 55) rfl rfl rfl rfl rfl ?_
              refine q_goto rfl ?_
              refine q_iload_n rfl rfl rfl ?_
              refine q_bipush rfl rfl ?_
              refine q_icge rfl rfl (fun c508 => absurd c508 (by decide)) (fun c508 => ?_)
              refine q_aload_n rfl rfl rfl ?_
              refine q_getf rfl rfl (by decide) (FW_46 S hW) rfl ?_
              refine q_bipush rfl rfl ?_
              refine q_iload_n rfl rfl rfl ?_
              refine q_imul rfl rfl (q_tn (z := 360) rfl ?_)
              refine q_iload_n rfl rfl rfl ?_
              refine q_iadd rfl rfl (q_tn (z := 415) rfl ?_)
              refine q_lconst rfl rfl ?_
              refine q_last rfl rfl (by decide) rfl (by decide) ?_
              refine q_icc2 (z := 56) rfl rfl rfl rfl rfl ?_
              refine q_goto rfl ?_
              refine q_iload_n rfl rfl rfl ?_
              refine q_bipush rfl rfl ?_
              refine q_icge rfl rfl (fun c509 => absurd c509 (by decide)) (fun c509 => ?_)
              refine q_aload_n rfl rfl rfl ?_
              refine q_getf rfl rfl (by decide) (FW_46 S hW) rfl ?_
              refine q_bipush rfl rfl ?_
              refine q_iload_n rfl rfl rfl ?_
              refine q_imul rfl rfl (q_tn (z := 360) rfl ?_)
              refine q_iload_n rfl rfl rfl ?_
              refine q_iadd rfl rfl (q_tn (z := 416) rfl ?_)
              refine q_lconst rfl rfl ?_
              refine q_last rfl rfl (by decide) rfl (by decide) ?_
              refine q_icc2 (z := 57) rfl rfl rfl rfl rfl ?_
              refine q_goto rfl ?_
              refine q_iload_n rfl rfl rfl ?_
              refine q_bipush rfl rfl ?_
              refine q_icge rfl rfl (fun c510 => absurd c510 (by decide)) (fun c510 => ?_)
              refine q_aload_n rfl rfl rfl ?_
              refine q_getf rfl rfl (by decide) (FW_46 S hW) rfl ?_
              refine q_bipush rfl rfl ?_
              refine q_iload_n rfl rfl rfl ?_
              refine q_imul rfl rfl (q_tn (z := 360) rfl ?_)
              refine q_iload_n rfl rfl rfl ?_
              refine q_iadd rfl rfl (q_tn (z := 417) rfl ?_)
              refine q_lconst rfl rfl ?_
              refine q_last rfl rfl (by decide) rfl (by decide) ?_
              refine q_icc2 (z := 58) rfl rfl rfl rfl rfl ?_
              refine q_goto rfl ?_
              refine q_iload_n rfl rfl rfl ?_
              refine q_bipush rfl rfl ?_
              refine q_icge rfl rfl (fun c511 => absurd c511 (by decide)) (fun c511 => ?_)
              refine q_aload_n rfl rfl rfl ?_
              refine q_getf rfl rfl (by decide) (FW_46 S hW) rfl ?_
              refine q_bipush rfl rfl ?_
              refine q_iload_n rfl rfl rfl ?_
              refine q_imul rfl rfl (q_tn (z := 360) rfl ?_)
              refine q_iload_n rfl rfl rfl ?_
              refine q_iadd rfl rfl (q_tn (z := 418) rfl ?_)
              refine q_lconst rfl rfl ?_
              refine q_last rfl rfl (by decide) rfl (by decide) ?_
              refine q_icc2 (z := 59) rfl rfl rfl rfl rfl ?_
              refine q_goto rfl ?_
              refine q_iload_n rfl rfl rfl ?_
              refine q_bipush rfl rfl ?_
              refine q_icge rfl rfl (fun c512 => absurd c512 (by decide)) (fun c512 => ?_)
              refine q_aload_n rfl rfl rfl ?_
              refine q_getf rfl rfl (by decide) (FW_46 S hW) rfl ?_
              refine q_bipush rfl rfl ?_
              refine q_iload_n rfl rfl rfl ?_
              refine q_imul rfl rfl (q_tn (z := 360) rfl ?_)
              refine q_iload_n rfl rfl rfl ?_
              refine q_iadd rfl rfl (q_tn (z := 419) rfl ?_)
              refine q_lconst rfl rfl ?_
              refine q_last rfl rfl (by decide) rfl (by decide) ?_
              refine q_icc2 (z := 60) rfl rfl rfl rfl rfl ?_
              refine q_goto rfl ?_
              refine q_iload_n rfl rfl rfl ?_
              refine q_bipush rfl rfl ?_
              refine q_icge rfl rfl (fun c513 => ?_) (fun c513 => absurd (by decide) c513)
              refine q_ret rfl rfl ?_
              refine ⟨rfl, ?_⟩
              refine q_iconst rfl rfl ?_
              refine q_iret rfl rfl trivial ?_
              refine ⟨_, rfl, ?_⟩
              refine q_iceq rfl rfl (fun c514 => ?_) (fun c514 => absurd (by decide) c514)
              refine q_icc4 (z := 6) rfl rfl rfl rfl rfl ?_
              refine q_goto rfl ?_
              refine q_iload rfl rfl rfl ?_
              refine q_aload_nF rfl rfl rfl ?_
              refine q_alenX (x := 6) rfl rfl rfl ?_
              refine q_bipush rfl rfl ?_
              refine q_isub rfl rfl (q_tn (z := 0) rfl ?_)
              refine q_icgt rfl rfl (fun c515 => ?_) (fun c515 => absurd (by decide) c515)
              refine q_iconst rfl rfl ?_
              refine q_iret rfl rfl rfl ?_
              exact hK _ _
            · refine q_aast rfl rfl (by decide) (by decide) (FW_43 S hW) rfl rfl (by decide) ?_
              refine q_iconst rfl rfl ?_
              refine q_iret rfl rfl trivial ?_
              refine ⟨_, rfl, ?_⟩
              refine q_aload_n rfl rfl rfl ?_
              refine q_aload_nF rfl rfl rfl ?_
              refine q_iload rfl rfl rfl ?_
              refine q_iconst rfl rfl ?_
              refine q_iadd rfl rfl (q_tn (z := 1) rfl ?_)
              refine q_ialdX (x := 7) rfl rfl rfl hx1 ?_
              refine q_aload_nF rfl rfl rfl ?_
              refine q_iload rfl rfl rfl ?_
              refine q_iconst rfl rfl ?_
              refine q_iadd rfl rfl (q_tn (z := 2) rfl ?_)
              refine q_ialdX (x := 3) rfl rfl rfl hx2 ?_
              refine q_aload_nF rfl rfl rfl ?_
              refine q_iload rfl rfl rfl ?_
              refine q_iconst rfl rfl ?_
              refine q_iadd rfl rfl (q_tn (z := 3) rfl ?_)
              refine q_ialdX (x := x3) rfl rfl rfl hx3 ?_
              refine q_nV3 rfl rfl (Or.inl rfl) rfl rfl rfl (by decide) (FW_46 S hW) ⟨rfl, rfl⟩ rfl ?_
              change PQ _ _ _ mm_X12_make 0 [.ref 46, .int 7, .int 3, .int x3] [] _ _ 0 0 _
              refine q_aload_n rfl rfl rfl ?_
              refine q_iload_n rfl rfl rfl ?_
              refine q_nV1 rfl rfl (Or.inl rfl) rfl rfl rfl (by decide) (FW_46 S hW) ⟨rfl, rfl⟩ rfl ?_
              change PQ _ _ _ mm_X12_isShelf 0 [.ref 46, .int 7] [] _ _ 0 0 _
              refine q_aload_n rfl rfl rfl ?_
              refine q_iload_n rfl rfl rfl ?_
              refine q_iconst rfl rfl ?_
              refine q_bipush rfl rfl ?_
              refine q_nV3 rfl rfl (Or.inl rfl) rfl rfl rfl (by decide) (FW_46 S hW) ⟨rfl, rfl⟩ rfl ?_
              change PQ _ _ _ mm_X12_in 0 [.ref 46, .int 7, .int 0, .int 7] [] _ _ 0 0 _
              refine q_iload_n rfl rfl rfl ?_
              refine q_iload_n rfl rfl rfl ?_
              refine q_iclt rfl rfl (fun c516 => absurd c516 (by decide)) (fun c516 => ?_)
              refine q_iload_n rfl rfl rfl ?_
              refine q_iload_n rfl rfl rfl ?_
              refine q_icgt rfl rfl (fun c517 => absurd c517 (by decide)) (fun c517 => ?_)
              refine q_iconst rfl rfl ?_
              refine q_goto rfl ?_
              refine q_iret rfl rfl rfl ?_
              refine ⟨_, rfl, ?_⟩
              refine q_iret rfl rfl rfl ?_
              refine ⟨_, rfl, ?_⟩
              refine q_ifeq rfl rfl (fun c518 => absurd c518 (by decide)) (fun c518 => ?_)
              refine q_aload_n rfl rfl rfl ?_
              refine q_iload_n rfl rfl rfl ?_
              refine q_iconst rfl rfl ?_
              refine q_iconst rfl rfl ?_
              refine q_nV3 rfl rfl (Or.inl rfl) rfl rfl rfl (by decide) (FW_46 S hW) ⟨rfl, rfl⟩ rfl ?_
              change PQ _ _ _ mm_X12_in 0 [.ref 46, .int 3, .int 3, .int 4] [] _ _ 0 0 _
              refine q_iload_n rfl rfl rfl ?_
              refine q_iload_n rfl rfl rfl ?_
              refine q_iclt rfl rfl (fun c519 => absurd c519 (by decide)) (fun c519 => ?_)
              refine q_iload_n rfl rfl rfl ?_
              refine q_iload_n rfl rfl rfl ?_
              refine q_icgt rfl rfl (fun c520 => absurd c520 (by decide)) (fun c520 => ?_)
              refine q_iconst rfl rfl ?_
              refine q_goto rfl ?_
              refine q_iret rfl rfl rfl ?_
              refine ⟨_, rfl, ?_⟩
              refine q_ifeq rfl rfl (fun c521 => absurd c521 (by decide)) (fun c521 => ?_)
              refine q_iload_n rfl rfl rfl ?_
              refine q_bipush rfl rfl ?_
              refine q_icle rfl rfl (fun c522 => ?_) (fun c522 => absurd (i_le_t c16 rfl) c522)
              refine q_iload_n rfl rfl rfl ?_
              refine q_ifge rfl rfl (fun c523 => ?_) (fun c523 => absurd (i_ge_t c17 rfl) c523)
              refine q_aload_n rfl rfl rfl ?_
              refine q_getf rfl rfl (by decide) (FW_46 S hW) rfl ?_
              refine q_iload_n rfl rfl rfl ?_
              refine q_iload_n rfl rfl rfl ?_
              refine q_iast rfl rfl (by decide) (FW_75 S hW) (by decide) ?_
              refine q_aload_n rfl rfl rfl ?_
              refine q_getf rfl rfl (by decide) (FW_46 S hW) rfl ?_
              refine q_iload_n rfl rfl rfl ?_
              refine q_iload_n rfl rfl rfl ?_
              refine q_iast rfl rfl (by decide) (FW_78 S hW) (by decide) ?_
              refine q_aload_n rfl rfl rfl ?_
              refine q_iload_n rfl rfl rfl ?_
              refine q_nV1v rfl rfl (Or.inl rfl) rfl rfl rfl (by decide) (FW_46 S hW) ⟨rfl, rfl⟩ rfl ?_
              change PQ _ _ _ mm_X12_clear 0 [.ref 46, .int 7, pm_un] [] _ _ 0 0 _
              refine q_iconst rfl rfl ?_
              refine q_ist2n rfl rfl rfl rfl ?_
              refine q_iload_n rfl rfl rfl ?_
              refine q_bipush rfl rfl ?_
              refine q_icge rfl rfl (fun c524 => absurd c524 (by decide)) (fun c524 => ?_)
              refine q_aload_n rfl rfl rfl ?_
              refine q_getf rfl rfl (by decide) (FW_46 S hW) rfl ?_
              refine q_bipush rfl rfl ?_
              refine q_iload_n rfl rfl rfl ?_
              refine q_imul rfl rfl (q_tn (z := 420) rfl ?_)
              refine q_iload_n rfl rfl rfl ?_
              refine q_iadd rfl rfl (q_tn (z := 420) rfl ?_)
              refine q_lconst rfl rfl ?_
              refine q_last rfl rfl (by decide) (FW_79 S hW) (by decide) ?_
              refine q_icc2 (z := 1) rfl rfl rfl rfl rfl ?_
              refine q_goto rfl ?_
              refine q_iload_n rfl rfl rfl ?_
              refine q_bipush rfl rfl ?_
              refine q_icge rfl rfl (fun c525 => absurd c525 (by decide)) (fun c525 => ?_)
              refine q_aload_n rfl rfl rfl ?_
              refine q_getf rfl rfl (by decide) (FW_46 S hW) rfl ?_
              refine q_bipush rfl rfl ?_
              refine q_iload_n rfl rfl rfl ?_
              refine q_imul rfl rfl (q_tn (z := 420) rfl ?_)
              refine q_iload_n rfl rfl rfl ?_
              refine q_iadd rfl rfl (q_tn (z := 421) rfl ?_)
              refine q_lconst rfl rfl ?_
              refine q_last rfl rfl (by decide) rfl (by decide) ?_
              refine q_icc2 (z := 2) rfl rfl rfl rfl rfl ?_
              refine q_goto rfl ?_
              refine q_iload_n rfl rfl rfl ?_
              refine q_bipush rfl rfl ?_
              refine q_icge rfl rfl (fun c526 => absurd c526 (by decide)) (fun c526 => ?_)
              refine q_aload_n rfl rfl rfl ?_
              refine q_getf rfl rfl (by decide) (FW_46 S hW) rfl ?_
              refine q_bipush rfl rfl ?_
              refine q_iload_n rfl rfl rfl ?_
              refine q_imul rfl rfl (q_tn (z := 420) rfl ?_)
              refine q_iload_n rfl rfl rfl ?_
              refine q_iadd rfl rfl (q_tn (z := 422) rfl ?_)
              refine q_lconst rfl rfl ?_
              refine q_last rfl rfl (by decide) rfl (by decide) ?_
              refine q_icc2 (z := 3) rfl rfl rfl rfl rfl ?_
              refine q_goto rfl ?_
              refine q_iload_n rfl rfl rfl ?_
              refine q_bipush rfl rfl ?_
              refine q_icge rfl rfl (fun c527 => absurd c527 (by decide)) (fun c527 => ?_)
              refine q_aload_n rfl rfl rfl ?_
              refine q_getf rfl rfl (by decide) (FW_46 S hW) rfl ?_
              refine q_bipush rfl rfl ?_
              refine q_iload_n rfl rfl rfl ?_
              refine q_imul rfl rfl (q_tn (z := 420) rfl ?_)
              refine q_iload_n rfl rfl rfl ?_
              refine q_iadd rfl rfl (q_tn (z := 423) rfl ?_)
              refine q_lconst rfl rfl ?_
              refine q_last rfl rfl (by decide) rfl (by decide) ?_
              refine q_icc2 (z := 4) rfl rfl rfl rfl rfl ?_
              refine q_goto rfl ?_
              refine q_iload_n rfl rfl rfl ?_
              refine q_bipush rfl rfl ?_
              refine q_icge rfl rfl (fun c528 => absurd c528 (by decide)) (fun c528 => ?_)
              refine q_aload_n rfl rfl rfl ?_
              refine q_getf rfl rfl (by decide) (FW_46 S hW) rfl ?_
              refine q_bipush rfl rfl ?_
              refine q_iload_n rfl rfl rfl ?_
              refine q_imul rfl rfl (q_tn (z := 420) rfl ?_)
              refine q_iload_n rfl rfl rfl ?_
              refine q_iadd rfl rfl (q_tn (z := 424) rfl ?_)
              refine q_lconst rfl rfl ?_
              refine q_last rfl rfl (by decide) rfl (by decide) ?_
              refine q_icc2 (z := 5) rfl rfl rfl rfl rfl ?_
              refine q_goto rfl ?_
              refine q_iload_n rfl rfl rfl ?_
              refine q_bipush rfl rfl ?_
              refine q_icge rfl rfl (fun c529 => absurd c529 (by decide)) (fun c529 => ?_)
              refine q_aload_n rfl rfl rfl ?_
              refine q_getf rfl rfl (by decide) (FW_46 S hW) rfl ?_
              refine q_bipush rfl rfl ?_
              refine q_iload_n rfl rfl rfl ?_
              refine q_imul rfl rfl (q_tn (z := 420) rfl ?_)
              refine q_iload_n rfl rfl rfl ?_
              refine q_iadd rfl rfl (q_tn (z := 425) rfl ?_)
              refine q_lconst rfl rfl ?_
              refine q_last rfl rfl (by decide) rfl (by decide) ?_
              refine q_icc2 (z := 6) rfl rfl rfl rfl rfl ?_
              refine q_goto rfl ?_
              refine q_iload_n rfl rfl rfl ?_
              refine q_bipush rfl rfl ?_
              refine q_icge rfl rfl (fun c530 => absurd c530 (by decide)) (fun c530 => ?_)
              refine q_aload_n rfl rfl rfl ?_
              refine q_getf rfl rfl (by decide) (FW_46 S hW) rfl ?_
              refine q_bipush rfl rfl ?_
              refine q_iload_n rfl rfl rfl ?_
              refine q_imul rfl rfl (q_tn (z := 420) rfl ?_)
              refine q_iload_n rfl rfl rfl ?_
              refine q_iadd rfl rfl (q_tn (z := 426) rfl ?_)
              refine q_lconst rfl rfl ?_
              refine q_last rfl rfl (by decide) rfl (by decide) ?_
              refine q_icc2 (z := 7) rfl rfl rfl rfl rfl ?_
              refine q_goto rfl ?_
              refine q_iload_n rfl rfl rfl ?_
              refine q_bipush rfl rfl ?_
              refine q_icge rfl rfl (fun c531 => absurd c531 (by decide)) (fun c531 => ?_)
              refine q_aload_n rfl rfl rfl ?_
              refine q_getf rfl rfl (by decide) (FW_46 S hW) rfl ?_
              refine q_bipush rfl rfl ?_
              refine q_iload_n rfl rfl rfl ?_
              refine q_imul rfl rfl (q_tn (z := 420) rfl ?_)
              refine q_iload_n rfl rfl rfl ?_
              refine q_iadd rfl rfl (q_tn (z := 427) rfl ?_)
              refine q_lconst rfl rfl ?_
              refine q_last rfl rfl (by decide) rfl (by decide) ?_
              refine q_icc2 (z := 8) rfl rfl rfl rfl rfl ?_
              refine q_goto rfl ?_
              refine q_iload_n rfl rfl rfl ?_
              refine q_bipush rfl rfl ?_
              refine q_icge rfl rfl (fun c532 => absurd c532 (by decide)) (fun c532 => ?_)
              refine q_aload_n rfl rfl rfl ?_
              refine q_getf rfl rfl (by decide) (FW_46 S hW) rfl ?_
              refine q_bipush rfl rfl ?_
              refine q_iload_n rfl rfl rfl ?_
              refine q_imul rfl rfl (q_tn (z := 420) rfl ?_)
              refine q_iload_n rfl rfl rfl ?_
              refine q_iadd rfl rfl (q_tn (z := 428) rfl ?_)
              refine q_lconst rfl rfl ?_
              refine q_last rfl rfl (by decide) rfl (by decide) ?_
              refine q_icc2 (z := 9) rfl rfl rfl rfl rfl ?_
              refine q_goto rfl ?_
              refine q_iload_n rfl rfl rfl ?_
              refine q_bipush rfl rfl ?_
              refine q_icge rfl rfl (fun c533 => absurd c533 (by decide)) (fun c533 => ?_)
              refine q_aload_n rfl rfl rfl ?_
              refine q_getf rfl rfl (by decide) (FW_46 S hW) rfl ?_
              refine q_bipush rfl rfl ?_
              refine q_iload_n rfl rfl rfl ?_
              refine q_imul rfl rfl (q_tn (z := 420) rfl ?_)
              refine q_iload_n rfl rfl rfl ?_
              refine q_iadd rfl rfl (q_tn (z := 429) rfl ?_)
              refine q_lconst rfl rfl ?_
              refine q_last rfl rfl (by decide) rfl (by decide) ?_
              refine q_icc2 (z := 10) rfl rfl rfl rfl rfl ?_
              refine q_goto rfl ?_
              refine q_iload_n rfl rfl rfl ?_
              refine q_bipush rfl rfl ?_
              refine q_icge rfl rfl (fun c534 => absurd c534 (by decide)) (fun c534 => ?_)
              refine q_aload_n rfl rfl rfl ?_
              refine q_getf rfl rfl (by decide) (FW_46 S hW) rfl ?_
              refine q_bipush rfl rfl ?_
              refine q_iload_n rfl rfl rfl ?_
              refine q_imul rfl rfl (q_tn (z := 420) rfl ?_)
              refine q_iload_n rfl rfl rfl ?_
              refine q_iadd rfl rfl (q_tn (z := 430) rfl ?_)
              refine q_lconst rfl rfl ?_
              refine q_last rfl rfl (by decide) rfl (by decide) ?_
              refine q_icc2 (z := 11) rfl rfl rfl rfl rfl ?_
              refine q_goto rfl ?_
              refine q_iload_n rfl rfl rfl ?_
              refine q_bipush rfl rfl ?_
              refine q_icge rfl rfl (fun c535 => absurd c535 (by decide)) (fun c535 => ?_)
              refine q_aload_n rfl rfl rfl ?_
              refine q_getf rfl rfl (by decide) (FW_46 S hW) rfl ?_
              refine q_bipush rfl rfl ?_
              refine q_iload_n rfl rfl rfl ?_
              refine q_imul rfl rfl (q_tn (z := 420) rfl ?_)
              refine q_iload_n rfl rfl rfl ?_
              refine q_iadd rfl rfl (q_tn (z := 431) rfl ?_)
              refine q_lconst rfl rfl ?_
              refine q_last rfl rfl (by decide) rfl (by decide) ?_
              refine q_icc2 (z := 12) rfl rfl rfl rfl rfl ?_
              refine q_goto rfl ?_
              refine q_iload_n rfl rfl rfl ?_
              refine q_bipush rfl rfl ?_
              refine q_icge rfl rfl (fun c536 => absurd c536 (by decide)) (fun c536 => ?_)
              refine q_aload_n rfl rfl rfl ?_
              refine q_getf rfl rfl (by decide) (FW_46 S hW) rfl ?_
              refine q_bipush rfl rfl ?_
              refine q_iload_n rfl rfl rfl ?_
              refine q_imul rfl rfl (q_tn (z := 420) rfl ?_)
              refine q_iload_n rfl rfl rfl ?_
              refine q_iadd rfl rfl (q_tn (z := 432) rfl ?_)
              refine q_lconst rfl rfl ?_
              refine q_last rfl rfl (by decide) rfl (by decide) ?_
              refine q_icc2 (z := 13) rfl rfl rfl rfl rfl ?_
              refine q_goto rfl ?_
              refine q_iload_n rfl rfl rfl ?_
              refine q_bipush rfl rfl ?_
              refine q_icge rfl rfl (fun c537 => absurd c537 (by decide)) (fun c537 => ?_)
              refine q_aload_n rfl rfl rfl ?_
              refine q_getf rfl rfl (by decide) (FW_46 S hW) rfl ?_
              refine q_bipush rfl rfl ?_
              refine q_iload_n rfl rfl rfl ?_
              refine q_imul rfl rfl (q_tn (z := 420) rfl ?_)
              refine q_iload_n rfl rfl rfl ?_
              refine q_iadd rfl rfl (q_tn (z := 433) rfl ?_)
              refine q_lconst rfl rfl ?_
              refine q_last rfl rfl (by decide) rfl (by decide) ?_
              refine q_icc2 (z := 14) rfl rfl rfl rfl rfl ?_
              refine q_goto rfl ?_
              refine q_iload_n rfl rfl rfl ?_
              refine q_bipush rfl rfl ?_
              refine q_icge rfl rfl (fun c538 => absurd c538 (by decide)) (fun c538 => ?_)
              refine q_aload_n rfl rfl rfl ?_
              refine q_getf rfl rfl (by decide) (FW_46 S hW) rfl ?_
              refine q_bipush rfl rfl ?_
              refine q_iload_n rfl rfl rfl ?_
              refine q_imul rfl rfl (q_tn (z := 420) rfl ?_)
              refine q_iload_n rfl rfl rfl ?_
              refine q_iadd rfl rfl (q_tn (z := 434) rfl ?_)
              refine q_lconst rfl rfl ?_
              refine q_last rfl rfl (by decide) rfl (by decide) ?_
              refine q_icc2 (z := 15) rfl rfl rfl rfl rfl ?_
              refine q_goto rfl ?_
              refine q_iload_n rfl rfl rfl ?_
              refine q_bipush rfl rfl ?_
              refine q_icge rfl rfl (fun c539 => absurd c539 (by decide)) (fun c539 => ?_)
              refine q_aload_n rfl rfl rfl ?_
              refine q_getf rfl rfl (by decide) (FW_46 S hW) rfl ?_
              refine q_bipush rfl rfl ?_
              refine q_iload_n rfl rfl rfl ?_
              refine q_imul rfl rfl (q_tn (z := 420) rfl ?_)
              refine q_iload_n rfl rfl rfl ?_
              refine q_iadd rfl rfl (q_tn (z := 435) rfl ?_)
              refine q_lconst rfl rfl ?_
              refine q_last rfl rfl (by decide) rfl (by decide) ?_
              refine q_icc2 (z := 16) rfl rfl rfl rfl rfl ?_
              refine q_goto rfl ?_
              refine q_iload_n rfl rfl rfl ?_
              refine q_bipush rfl rfl ?_
              refine q_icge rfl rfl (fun c540 => absurd c540 (by decide)) (fun c540 => ?_)
              refine q_aload_n rfl rfl rfl ?_
              refine q_getf rfl rfl (by decide) (FW_46 S hW) rfl ?_
              refine q_bipush rfl rfl ?_
              refine q_iload_n rfl rfl rfl ?_
              refine q_imul rfl rfl (q_tn (z := 420) rfl ?_)
              refine q_iload_n rfl rfl rfl ?_
              refine q_iadd rfl rfl (q_tn (z := 436) rfl ?_)
              refine q_lconst rfl rfl ?_
              refine q_last rfl rfl (by decide) rfl (by decide) ?_
              refine q_icc2 (z := 17) rfl rfl rfl rfl rfl ?_
              refine q_goto rfl ?_
              refine q_iload_n rfl rfl rfl ?_
              refine q_bipush rfl rfl ?_
              refine q_icge rfl rfl (fun c541 => absurd c541 (by decide)) (fun c541 => ?_)
              refine q_aload_n rfl rfl rfl ?_
              refine q_getf rfl rfl (by decide) (FW_46 S hW) rfl ?_
              refine q_bipush rfl rfl ?_
              refine q_iload_n rfl rfl rfl ?_
              refine q_imul rfl rfl (q_tn (z := 420) rfl ?_)
              refine q_iload_n rfl rfl rfl ?_
              refine q_iadd rfl rfl (q_tn (z := 437) rfl ?_)
              refine q_lconst rfl rfl ?_
              refine q_last rfl rfl (by decide) rfl (by decide) ?_
              refine q_icc2 (z := 18) rfl rfl rfl rfl rfl ?_
              refine q_goto rfl ?_
              refine q_iload_n rfl rfl rfl ?_
              refine q_bipush rfl rfl ?_
              refine q_icge rfl rfl (fun c542 => absurd c542 (by decide)) (fun c542 => ?_)
              refine q_aload_n rfl rfl rfl ?_
              refine q_getf rfl rfl (by decide) (FW_46 S hW) rfl ?_
              refine q_bipush rfl rfl ?_
              refine q_iload_n rfl rfl rfl ?_
              refine q_imul rfl rfl (q_tn (z := 420) rfl ?_)
              refine q_iload_n rfl rfl rfl ?_
              refine q_iadd rfl rfl (q_tn (z := 438) rfl ?_)
              refine q_lconst rfl rfl ?_
              refine q_last rfl rfl (by decide) rfl (by decide) ?_
              refine q_icc2 (z := 19) rfl rfl rfl rfl rfl ?_
              refine q_goto rfl ?_
              refine q_iload_n rfl rfl rfl ?_
              refine q_bipush rfl rfl ?_
              refine q_icge rfl rfl (fun c543 => absurd c543 (by decide)) (fun c543 => ?_)
              refine q_aload_n rfl rfl rfl ?_
              refine q_getf rfl rfl (by decide) (FW_46 S hW) rfl ?_
              refine q_bipush rfl rfl ?_
              refine q_iload_n rfl rfl rfl ?_
              refine q_imul rfl rfl (q_tn (z := 420) rfl ?_)
              refine q_iload_n rfl rfl rfl ?_
              refine q_iadd rfl rfl (q_tn (z := 439) rfl ?_)
              refine q_lconst rfl rfl ?_
              refine q_last rfl rfl (by decide) rfl (by decide) ?_
              refine q_icc2 (z := 20) rfl rfl rfl rfl rfl ?_
              refine q_goto rfl ?_
              refine q_iload_n rfl rfl rfl ?_
              refine q_bipush rfl rfl ?_
              refine q_icge rfl rfl (fun c544 => absurd c544 (by decide)) (fun c544 => ?_)
              refine q_aload_n rfl rfl rfl ?_
              refine q_getf rfl rfl (by decide) (FW_46 S hW) rfl ?_
              refine q_bipush rfl rfl ?_
              refine q_iload_n rfl rfl rfl ?_
              refine q_imul rfl rfl (q_tn (z := 420) rfl ?_)
              refine q_iload_n rfl rfl rfl ?_
              refine q_iadd rfl rfl (q_tn (z := 440) rfl ?_)
              refine q_lconst rfl rfl ?_
              refine q_last rfl rfl (by decide) rfl (by decide) ?_
              refine q_icc2 (z := 21) rfl rfl rfl rfl rfl ?_
              refine q_goto rfl ?_
              refine q_iload_n rfl rfl rfl ?_
              refine q_bipush rfl rfl ?_
              refine q_icge rfl rfl (fun c545 => absurd c545 (by decide)) (fun c545 => ?_)
              refine q_aload_n rfl rfl rfl ?_
              refine q_getf rfl rfl (by decide) (FW_46 S hW) rfl ?_
              refine q_bipush rfl rfl ?_
              refine q_iload_n rfl rfl rfl ?_
              refine q_imul rfl rfl (q_tn (z := 420) rfl ?_)
              refine q_iload_n rfl rfl rfl ?_
              refine q_iadd rfl rfl (q_tn (z := 441) rfl ?_)
              refine q_lconst rfl rfl ?_
              refine q_last rfl rfl (by decide) rfl (by decide) ?_
              refine q_icc2 (z := 22) rfl rfl rfl rfl rfl ?_
              refine q_goto rfl ?_
              refine q_iload_n rfl rfl rfl ?_
              refine q_bipush rfl rfl ?_
              refine q_icge rfl rfl (fun c546 => absurd c546 (by decide)) (fun c546 => ?_)
              refine q_aload_n rfl rfl rfl ?_
              refine q_getf rfl rfl (by decide) (FW_46 S hW) rfl ?_
              refine q_bipush rfl rfl ?_
              refine q_iload_n rfl rfl rfl ?_
              refine q_imul rfl rfl (q_tn (z := 420) rfl ?_)
              refine q_iload_n rfl rfl rfl ?_
              refine q_iadd rfl rfl (q_tn (z := 442) rfl ?_)
              refine q_lconst rfl rfl ?_
              refine q_last rfl rfl (by decide) rfl (by decide) ?_
              refine q_icc2 (z := 23) rfl rfl rfl rfl rfl ?_
              refine q_goto rfl ?_
              refine q_iload_n rfl rfl rfl ?_
              refine q_bipush rfl rfl ?_
              refine q_icge rfl rfl (fun c547 => absurd c547 (by decide)) (fun c547 => ?_)
              refine q_aload_n rfl rfl rfl ?_
              refine q_getf rfl rfl (by decide) (FW_46 S hW) rfl ?_
              refine q_bipush rfl rfl ?_
              refine q_iload_n rfl rfl rfl ?_
              refine q_imul rfl rfl (q_tn (z := 420) rfl ?_)
              refine q_iload_n rfl rfl rfl ?_
              refine q_iadd rfl rfl (q_tn (z := 443) rfl ?_)
              refine q_lconst rfl rfl ?_
              refine q_last rfl rfl (by decide) rfl (by decide) ?_
              refine q_icc2 (z := 24) rfl rfl rfl rfl rfl ?_
              refine q_goto rfl ?_
              refine q_iload_n rfl rfl rfl ?_
              refine q_bipush rfl rfl ?_
              refine q_icge rfl rfl (fun c548 => absurd c548 (by decide)) (fun c548 => ?_)
              refine q_aload_n rfl rfl rfl ?_
              refine q_getf rfl rfl (by decide) (FW_46 S hW) rfl ?_
              refine q_bipush rfl rfl ?_
              refine q_iload_n rfl rfl rfl ?_
              refine q_imul rfl rfl (q_tn (z := 420) rfl ?_)
              refine q_iload_n rfl rfl rfl ?_
              refine q_iadd rfl rfl (q_tn (z := 444) rfl ?_)
              refine q_lconst rfl rfl ?_
              refine q_last rfl rfl (by decide) rfl (by decide) ?_
              refine q_icc2 (z := 25) rfl rfl rfl rfl rfl ?_
              refine q_goto rfl ?_
              refine q_iload_n rfl rfl rfl ?_
              refine q_bipush rfl rfl ?_
              refine q_icge rfl rfl (fun c549 => absurd c549 (by decide)) (fun c549 => ?_)
              refine q_aload_n rfl rfl rfl ?_
              refine q_getf rfl rfl (by decide) (FW_46 S hW) rfl ?_
              refine q_bipush rfl rfl ?_
              refine q_iload_n rfl rfl rfl ?_
              refine q_imul rfl rfl (q_tn (z := 420) rfl ?_)
              refine q_iload_n rfl rfl rfl ?_
              refine q_iadd rfl rfl (q_tn (z := 445) rfl ?_)
              refine q_lconst rfl rfl ?_
              refine q_last rfl rfl (by decide) rfl (by decide) ?_
              refine q_icc2 (z := 26) rfl rfl rfl rfl rfl ?_
              refine q_goto rfl ?_
              refine q_iload_n rfl rfl rfl ?_
              refine q_bipush rfl rfl ?_
              refine q_icge rfl rfl (fun c550 => absurd c550 (by decide)) (fun c550 => ?_)
              refine q_aload_n rfl rfl rfl ?_
              refine q_getf rfl rfl (by decide) (FW_46 S hW) rfl ?_
              refine q_bipush rfl rfl ?_
              refine q_iload_n rfl rfl rfl ?_
              refine q_imul rfl rfl (q_tn (z := 420) rfl ?_)
              refine q_iload_n rfl rfl rfl ?_
              refine q_iadd rfl rfl (q_tn (z := 446) rfl ?_)
              refine q_lconst rfl rfl ?_
              refine q_last rfl rfl (by decide) rfl (by decide) ?_
              refine q_icc2 (z := 27) rfl rfl rfl rfl rfl ?_
              refine q_goto rfl ?_
              refine q_iload_n rfl rfl rfl ?_
              refine q_bipush rfl rfl ?_
              refine q_icge rfl rfl (fun c551 => absurd c551 (by decide)) (fun c551 => ?_)
              refine q_aload_n rfl rfl rfl ?_
              refine q_getf rfl rfl (by decide) (FW_46 S hW) rfl ?_
              refine q_bipush rfl rfl ?_
              refine q_iload_n rfl rfl rfl ?_
              refine q_imul rfl rfl (q_tn (z := 420) rfl ?_)
              refine q_iload_n rfl rfl rfl ?_
              refine q_iadd rfl rfl (q_tn (z := 447) rfl ?_)
              refine q_lconst rfl rfl ?_
              refine q_last rfl rfl (by decide) rfl (by decide) ?_
              refine q_icc2 (z := 28) rfl rfl rfl rfl rfl ?_
              refine q_goto rfl ?_
              refine q_iload_n rfl rfl rfl ?_
              refine q_bipush rfl rfl ?_
              refine q_icge rfl rfl (fun c552 => absurd c552 (by decide)) (fun c552 => ?_)
              refine q_aload_n rfl rfl rfl ?_
              refine q_getf rfl rfl (by decide) (FW_46 S hW) rfl ?_
              refine q_bipush rfl rfl ?_
              refine q_iload_n rfl rfl rfl ?_
              refine q_imul rfl rfl (q_tn (z := 420) rfl ?_)
              refine q_iload_n rfl rfl rfl ?_
              refine q_iadd rfl rfl (q_tn (z := 448) rfl ?_)
              refine q_lconst rfl rfl ?_
              refine q_last rfl rfl (by decide) rfl (by decide) ?_
              refine q_icc2 (z := 29) rfl rfl rfl rfl rfl ?_
              refine q_goto rfl ?_
              refine q_iload_n rfl rfl rfl ?_
              refine q_bipush rfl rfl ?_
              refine q_icge rfl rfl (fun c553 => absurd c553 (by decide)) (fun c553 => ?_)
              refine q_aload_n rfl rfl rfl ?_
              refine q_getf rfl rfl (by decide) (FW_46 S hW) rfl ?_
              refine q_bipush rfl rfl ?_
              refine q_iload_n rfl rfl rfl ?_
              refine q_imul rfl rfl (q_tn (z := 420) rfl ?_)
              refine q_iload_n rfl rfl rfl ?_
              refine q_iadd rfl rfl (q_tn (z := 449) rfl ?_)
              refine q_lconst rfl rfl ?_
              refine q_last rfl rfl (by decide) rfl (by decide) ?_
              refine q_icc2 (z := 30) rfl rfl rfl rfl rfl ?_
              refine q_goto rfl ?_
              refine q_iload_n rfl rfl rfl ?_
              refine q_bipush rfl rfl ?_
              refine q_icge rfl rfl (fun c554 => absurd c554 (by decide)) (fun c554 => ?_)
              refine q_aload_n rfl rfl rfl ?_
              refine q_getf rfl rfl (by decide) (FW_46 S hW) rfl ?_
              refine q_bipush rfl rfl ?_
              refine q_iload_n rfl rfl rfl ?_
              refine q_imul rfl rfl (q_tn (z := 420) rfl ?_)
              refine q_iload_n rfl rfl rfl ?_
              refine q_iadd rfl rfl (q_tn (z := 450) rfl ?_)
              refine q_lconst rfl rfl ?_
              refine q_last rfl rfl (by decide) rfl (by decide) ?_
              refine q_icc2 (z := 31) rfl rfl rfl rfl rfl ?_
              refine q_goto rfl ?_
              refine q_iload_n rfl rfl rfl ?_
              refine q_bipush rfl rfl ?_
              refine q_icge rfl rfl (fun c555 => absurd c555 (by decide)) (fun c555 => ?_)
              refine q_aload_n rfl rfl rfl ?_
              refine q_getf rfl rfl (by decide) (FW_46 S hW) rfl ?_
              refine q_bipush rfl rfl ?_
              refine q_iload_n rfl rfl rfl ?_
              refine q_imul rfl rfl (q_tn (z := 420) rfl ?_)
              refine q_iload_n rfl rfl rfl ?_
              refine q_iadd rfl rfl (q_tn (z := 451) rfl ?_)
              refine q_lconst rfl rfl ?_
              refine q_last rfl rfl (by decide) rfl (by decide) ?_
              refine q_icc2 (z := 32) rfl rfl rfl rfl rfl ?_
              refine q_goto rfl ?_
              refine q_iload_n rfl rfl rfl ?_
              refine q_bipush rfl rfl ?_
              refine q_icge rfl rfl (fun c556 => absurd c556 (by decide)) (fun c556 => ?_)
              refine q_aload_n rfl rfl rfl ?_
              refine q_getf rfl rfl (by decide) (FW_46 S hW) rfl ?_
              refine q_bipush rfl rfl ?_
              refine q_iload_n rfl rfl rfl ?_
              refine q_imul rfl rfl (q_tn (z := 420) rfl ?_)
              refine q_iload_n rfl rfl rfl ?_
              refine q_iadd rfl rfl (q_tn (z := 452) rfl ?_)
              refine q_lconst rfl rfl ?_
              refine q_last rfl rfl (by decide) rfl (by decide) ?_
              refine q_icc2 (z := 33) rfl rfl rfl rfl rfl ?_
              refine q_goto rfl ?_
              refine q_iload_n rfl rfl rfl ?_
              refine q_bipush rfl rfl ?_
              refine q_icge rfl rfl (fun c557 => absurd c557 (by decide)) (fun c557 => ?_)
              refine q_aload_n rfl rfl rfl ?_
              refine q_getf rfl rfl (by decide) (FW_46 S hW) rfl ?_
              refine q_bipush rfl rfl ?_
              refine q_iload_n rfl rfl rfl ?_
              refine q_imul rfl rfl (q_tn (z := 420) rfl ?_)
              refine q_iload_n rfl rfl rfl ?_
              refine q_iadd rfl rfl (q_tn (z := 453) rfl ?_)
              refine q_lconst rfl rfl ?_
              refine q_last rfl rfl (by decide) rfl (by decide) ?_
              refine q_icc2 (z := 34) rfl rfl rfl rfl rfl ?_
              refine q_goto rfl ?_
              refine q_iload_n rfl rfl rfl ?_
              refine q_bipush rfl rfl ?_
              refine q_icge rfl rfl (fun c558 => absurd c558 (by decide)) (fun c558 => ?_)
              refine q_aload_n rfl rfl rfl ?_
              refine q_getf rfl rfl (by decide) (FW_46 S hW) rfl ?_
              refine q_bipush rfl rfl ?_
              refine q_iload_n rfl rfl rfl ?_
              refine q_imul rfl rfl (q_tn (z := 420) rfl ?_)
              refine q_iload_n rfl rfl rfl ?_
              refine q_iadd rfl rfl (q_tn (z := 454) rfl ?_)
              refine q_lconst rfl rfl ?_
              refine q_last rfl rfl (by decide) rfl (by decide) ?_
              refine q_icc2 (z := 35) rfl rfl rfl rfl rfl ?_
              refine q_goto rfl ?_
              refine q_iload_n rfl rfl rfl ?_
              refine q_bipush rfl rfl ?_
              refine q_icge rfl rfl (fun c559 => absurd c559 (by decide)) (fun c559 => ?_)
              refine q_aload_n rfl rfl rfl ?_
              refine q_getf rfl rfl (by decide) (FW_46 S hW) rfl ?_
              refine q_bipush rfl rfl ?_
              refine q_iload_n rfl rfl rfl ?_
              refine q_imul rfl rfl (q_tn (z := 420) rfl ?_)
              refine q_iload_n rfl rfl rfl ?_
              refine q_iadd rfl rfl (q_tn (z := 455) rfl ?_)
              refine q_lconst rfl rfl ?_
              refine q_last rfl rfl (by decide) rfl (by decide) ?_
              refine q_icc2 (z := 36) rfl rfl rfl rfl rfl ?_
              refine q_goto rfl ?_
              refine q_iload_n rfl rfl rfl ?_
              refine q_bipush rfl rfl ?_
              refine q_icge rfl rfl (fun c560 => absurd c560 (by decide)) (fun c560 => ?_)
              refine q_aload_n rfl rfl rfl ?_
              refine q_getf rfl rfl (by decide) (FW_46 S hW) rfl ?_
              refine q_bipush rfl rfl ?_
              refine q_iload_n rfl rfl rfl ?_
              refine q_imul rfl rfl (q_tn (z := 420) rfl ?_)
              refine q_iload_n rfl rfl rfl ?_
              refine q_iadd rfl rfl (q_tn (z := 456) rfl ?_)
              refine q_lconst rfl rfl ?_
              refine q_last rfl rfl (by decide) rfl (by decide) ?_
              refine q_icc2 (z := 37) rfl rfl rfl rfl rfl ?_
              refine q_goto rfl ?_
              refine q_iload_n rfl rfl rfl ?_
              refine q_bipush rfl rfl ?_
              refine q_icge rfl rfl (fun c561 => absurd c561 (by decide)) (fun c561 => ?_)
              refine q_aload_n rfl rfl rfl ?_
              refine q_getf rfl rfl (by decide) (FW_46 S hW) rfl ?_
              refine q_bipush rfl rfl ?_
              refine q_iload_n rfl rfl rfl ?_
              refine q_imul rfl rfl (q_tn (z := 420) rfl ?_)
              refine q_iload_n rfl rfl rfl ?_
              refine q_iadd rfl rfl (q_tn (z := 457) rfl ?_)
              refine q_lconst rfl rfl ?_
              refine q_last rfl rfl (by decide) rfl (by decide) ?_
              refine q_icc2 (z := 38) rfl rfl rfl rfl rfl ?_
              refine q_goto rfl ?_
              refine q_iload_n rfl rfl rfl ?_
              refine q_bipush rfl rfl ?_
              refine q_icge rfl rfl (fun c562 => absurd c562 (by decide)) (fun c562 => ?_)
              refine q_aload_n rfl rfl rfl ?_
              refine q_getf rfl rfl (by decide) (FW_46 S hW) rfl ?_
              refine q_bipush rfl rfl ?_
              refine q_iload_n rfl rfl rfl ?_
              refine q_imul rfl rfl (q_tn (z := 420) rfl ?_)
              refine q_iload_n rfl rfl rfl ?_
              refine q_iadd rfl rfl (q_tn (z := 458) rfl ?_)
              refine q_lconst rfl rfl ?_
              refine q_last rfl rfl (by decide) rfl (by decide) ?_
              refine q_icc2 (z := 39) rfl rfl rfl rfl rfl ?_
              refine q_goto rfl ?_
              refine q_iload_n rfl rfl rfl ?_
              refine q_bipush rfl rfl ?_
              refine q_icge rfl rfl (fun c563 => absurd c563 (by decide)) (fun c563 => ?_)
              refine q_aload_n rfl rfl rfl ?_
              refine q_getf rfl rfl (by decide) (FW_46 S hW) rfl ?_
              refine q_bipush rfl rfl ?_
              refine q_iload_n rfl rfl rfl ?_
              refine q_imul rfl rfl (q_tn (z := 420) rfl ?_)
              refine q_iload_n rfl rfl rfl ?_
              refine q_iadd rfl rfl (q_tn (z := 459) rfl ?_)
              refine q_lconst rfl rfl ?_
              refine q_last rfl rfl (by decide) rfl (by decide) ?_
              refine q_icc2 (z := 40) rfl rfl rfl rfl rfl ?_
              refine q_goto rfl ?_
              refine q_iload_n rfl rfl rfl ?_
              refine q_bipush rfl rfl ?_
              refine q_icge rfl rfl (fun c564 => absurd c564 (by decide)) (fun c564 => ?_)
              refine q_aload_n rfl rfl rfl ?_
              refine q_getf rfl rfl (by decide) (FW_46 S hW) rfl ?_
              refine q_bipush rfl rfl ?_
              refine q_iload_n rfl rfl rfl ?_
              refine q_imul rfl rfl (q_tn (z := 420) rfl ?_)
              refine q_iload_n rfl rfl rfl ?_
              refine q_iadd rfl rfl (q_tn (z := 460) rfl ?_)
              refine q_lconst rfl rfl ?_
              refine q_last rfl rfl (by decide) rfl (by decide) ?_
              refine q_icc2 (z := 41) rfl rfl rfl rfl rfl ?_
              refine q_goto rfl ?_
              refine q_iload_n rfl rfl rfl ?_
              refine q_bipush rfl rfl ?_
              refine q_icge rfl rfl (fun c565 => absurd c565 (by decide)) (fun c565 => ?_)
              refine q_aload_n rfl rfl rfl ?_
              refine q_getf rfl rfl (by decide) (FW_46 S hW) rfl ?_
              refine q_bipush rfl rfl ?_
              refine q_iload_n rfl rfl rfl ?_
              refine q_imul rfl rfl (q_tn (z := 420) rfl ?_)
              refine q_iload_n rfl rfl rfl ?_
              refine q_iadd rfl rfl (q_tn (z := 461) rfl ?_)
              refine q_lconst rfl rfl ?_
              refine q_last rfl rfl (by decide) rfl (by decide) ?_
              refine q_icc2 (z := 42) rfl rfl rfl rfl rfl ?_
              refine q_goto rfl ?_
              refine q_iload_n rfl rfl rfl ?_
              refine q_bipush rfl rfl ?_
              refine q_icge rfl rfl (fun c566 => absurd c566 (by decide)) (fun c566 => ?_)
              refine q_aload_n rfl rfl rfl ?_
              refine q_getf rfl rfl (by decide) (FW_46 S hW) rfl ?_
              refine q_bipush rfl rfl ?_
              refine q_iload_n rfl rfl rfl ?_
              refine q_imul rfl rfl (q_tn (z := 420) rfl ?_)
              refine q_iload_n rfl rfl rfl ?_
              refine q_iadd rfl rfl (q_tn (z := 462) rfl ?_)
              refine q_lconst rfl rfl ?_
              refine q_last rfl rfl (by decide) rfl (by decide) ?_
              refine q_icc2 (z := 43) rfl rfl rfl rfl rfl ?_
              refine q_goto rfl ?_
              refine q_iload_n rfl rfl rfl ?_
              refine q_bipush rfl rfl ?_
              refine q_icge rfl rfl (fun c567 => absurd c567 (by decide)) (fun c567 => ?_)
              refine q_aload_n rfl rfl rfl ?_
              refine q_getf rfl rfl (by decide) (FW_46 S hW) rfl ?_
              refine q_bipush rfl rfl ?_
              refine q_iload_n rfl rfl rfl ?_
              refine q_imul rfl rfl (q_tn (z := 420) rfl ?_)
              refine q_iload_n rfl rfl rfl ?_
              refine q_iadd rfl rfl (q_tn (z := 463) rfl ?_)
              refine q_lconst rfl rfl ?_
              refine q_last rfl rfl (by decide) rfl (by decide) ?_
              refine q_icc2 (z := 44) rfl rfl rfl rfl rfl ?_
              refine q_goto rfl ?_
              refine q_iload_n rfl rfl rfl ?_
              refine q_bipush rfl rfl ?_
              refine q_icge rfl rfl (fun c568 => absurd c568 (by decide)) (fun c568 => ?_)
              refine q_aload_n rfl rfl rfl ?_
              refine q_getf rfl rfl (by decide) (FW_46 S hW) rfl ?_
              refine q_bipush rfl rfl ?_
              refine q_iload_n rfl rfl rfl ?_
              refine q_imul rfl rfl (q_tn (z := 420) rfl ?_)
              refine q_iload_n rfl rfl rfl ?_
              refine q_iadd rfl rfl (q_tn (z := 464) rfl ?_)
              refine q_lconst rfl rfl ?_
              refine q_last rfl rfl (by decide) rfl (by decide) ?_
              refine q_icc2 (z := 45) rfl rfl rfl rfl rfl ?_
              refine q_goto rfl ?_
              refine q_iload_n rfl rfl rfl ?_
              refine q_bipush rfl rfl ?_
              refine q_icge rfl rfl (fun c569 => absurd c569 (by decide)) (fun c569 => ?_)
              refine q_aload_n rfl rfl rfl ?_
              refine q_getf rfl rfl (by decide) (FW_46 S hW) rfl ?_
              refine q_bipush rfl rfl ?_
              refine q_iload_n rfl rfl rfl ?_
              refine q_imul rfl rfl (q_tn (z := 420) rfl ?_)
              refine q_iload_n rfl rfl rfl ?_
              refine q_iadd rfl rfl (q_tn (z := 465) rfl ?_)
              refine q_lconst rfl rfl ?_
              refine q_last rfl rfl (by decide) rfl (by decide) ?_
              refine q_icc2 (z := 46) rfl rfl rfl rfl rfl ?_
              refine q_goto rfl ?_
              refine q_iload_n rfl rfl rfl ?_
              refine q_bipush rfl rfl ?_
              refine q_icge rfl rfl (fun c570 => absurd c570 (by decide)) (fun c570 => ?_)
              refine q_aload_n rfl rfl rfl ?_
              refine q_getf rfl rfl (by decide) (FW_46 S hW) rfl ?_
              refine q_bipush rfl rfl ?_
              refine q_iload_n rfl rfl rfl ?_
              refine q_imul rfl rfl (q_tn (z := 420) rfl ?_)
              refine q_iload_n rfl rfl rfl ?_
              refine q_iadd rfl rfl (q_tn (z := 466) rfl ?_)
              refine q_lconst rfl rfl ?_
              refine q_last rfl rfl (by decide) rfl (by decide) ?_
              refine q_icc2 (z := 47) rfl rfl rfl rfl rfl ?_
              refine q_goto rfl ?_
              refine q_iload_n rfl rfl rfl ?_
              refine q_bipush rfl rfl ?_
              refine q_icge rfl rfl (fun c571 => absurd c571 (by decide)) (fun c571 => ?_)
              refine q_aload_n rfl rfl rfl ?_
              refine q_getf rfl rfl (by decide) (FW_46 S hW) rfl ?_
              refine q_bipush rfl rfl ?_
              refine q_iload_n rfl rfl rfl ?_
              refine q_imul rfl rfl (q_tn (z := 420) rfl ?_)
              refine q_iload_n rfl rfl rfl ?_
              refine q_iadd rfl rfl (q_tn (z := 467) rfl ?_)
              refine q_lconst rfl rfl ?_
              refine q_last rfl rfl (by decide) rfl (by decide) ?_
              refine q_icc2 (z := 48) rfl rfl rfl rfl rfl ?_
              refine q_goto rfl ?_
              refine q_iload_n rfl rfl rfl ?_
              refine q_bipush rfl rfl ?_
              refine q_icge rfl rfl (fun c572 => absurd c572 (by decide)) (fun c572 => ?_)
              refine q_aload_n rfl rfl rfl ?_
              refine q_getf rfl rfl (by decide) (FW_46 S hW) rfl ?_
              refine q_bipush rfl rfl ?_
              refine q_iload_n rfl rfl rfl ?_
              refine q_imul rfl rfl (q_tn (z := 420) rfl ?_)
              refine q_iload_n rfl rfl rfl ?_
              refine q_iadd rfl rfl (q_tn (z := 468) rfl ?_)
              refine q_lconst rfl rfl ?_
              refine q_last rfl rfl (by decide) rfl (by decide) ?_
              refine q_icc2 (z := 49) rfl rfl rfl rfl rfl ?_
              refine q_goto rfl ?_
              refine q_iload_n rfl rfl rfl ?_
              refine q_bipush rfl rfl ?_
              refine q_icge rfl rfl (fun c573 => absurd c573 (by decide)) (fun c573 => ?_)
              refine q_aload_n rfl rfl rfl ?_
              refine q_getf rfl rfl (by decide) (FW_46 S hW) rfl ?_
              refine q_bipush rfl rfl ?_
              refine q_iload_n rfl rfl rfl ?_
              refine q_imul rfl rfl (q_tn (z := 420) rfl ?_)
              refine q_iload_n rfl rfl rfl ?_
              refine q_iadd rfl rfl (q_tn (z := 469) rfl ?_)
              refine q_lconst rfl rfl ?_
              refine q_last rfl rfl (by decide) rfl (by decide) ?_
              refine q_icc2 (z := 50) rfl rfl rfl rfl rfl ?_
              refine q_goto rfl ?_
              refine q_iload_n rfl rfl rfl ?_
              refine q_bipush rfl rfl ?_
              refine q_icge rfl rfl (fun c574 => absurd c574 (by decide)) (fun c574 => ?_)
              refine q_aload_n rfl rfl rfl ?_
              refine q_getf rfl rfl (by decide) (FW_46 S hW) rfl ?_
              refine q_bipush rfl rfl ?_
              refine q_iload_n rfl rfl rfl ?_
              refine q_imul rfl rfl (q_tn (z := 420) rfl ?_)
              refine q_iload_n rfl rfl rfl ?_
              refine q_iadd rfl rfl (q_tn (z := 470) rfl ?_)
              refine q_lconst rfl rfl ?_
              refine q_last rfl rfl (by decide) rfl (by decide) ?_
              refine q_icc2 (z := 51) rfl rfl rfl rfl rfl ?_
              refine q_goto rfl ?_
              refine q_iload_n rfl rfl rfl ?_
              refine q_bipush rfl rfl ?_
              refine q_icge rfl rfl (fun c575 => absurd c575 (by decide)) (fun c575 => ?_)
              refine q_aload_n rfl rfl rfl ?_
              refine q_getf rfl rfl (by decide) (FW_46 S hW) rfl ?_
              refine q_bipush rfl rfl ?_
              refine q_iload_n rfl rfl rfl ?_
              refine q_imul rfl rfl (q_tn (z := 420) rfl ?_)
              refine q_iload_n rfl rfl rfl ?_
              refine q_iadd rfl rfl (q_tn (z := 471) rfl ?_)
              refine q_lconst rfl rfl ?_
              refine q_last rfl rfl (by decide) rfl (by decide) ?_
              refine q_icc2 (z := 52) rfl rfl rfl rfl rfl ?_
              refine q_goto rfl ?_
              refine q_iload_n rfl rfl rfl ?_
              refine q_bipush rfl rfl ?_
              refine q_icge rfl rfl (fun c576 => absurd c576 (by decide)) (fun c576 => ?_)
              refine q_aload_n rfl rfl rfl ?_
              refine q_getf rfl rfl (by decide) (FW_46 S hW) rfl ?_
              refine q_bipush rfl rfl ?_
              refine q_iload_n rfl rfl rfl ?_
              refine q_imul rfl rfl (q_tn (z := 420) rfl ?_)
              refine q_iload_n rfl rfl rfl ?_
              refine q_iadd rfl rfl (q_tn (z := 472) rfl ?_)
              refine q_lconst rfl rfl ?_
              refine q_last rfl rfl (by decide) rfl (by decide) ?_
              refine q_icc2 (z := 53) rfl rfl rfl rfl rfl ?_
              refine q_goto rfl ?_
              refine q_iload_n rfl rfl rfl ?_
              refine q_bipush rfl rfl ?_
              refine q_icge rfl rfl (fun c577 => absurd c577 (by decide)) (fun c577 => ?_)
              refine q_aload_n rfl rfl rfl ?_
              refine q_getf rfl rfl (by decide) (FW_46 S hW) rfl ?_
              refine q_bipush rfl rfl ?_
              refine q_iload_n rfl rfl rfl ?_
              refine q_imul rfl rfl (q_tn (z := 420) rfl ?_)
              refine q_iload_n rfl rfl rfl ?_
              refine q_iadd rfl rfl (q_tn (z := 473) rfl ?_)
              refine q_lconst rfl rfl ?_
              refine q_last rfl rfl (by decide) rfl (by decide) ?_
              refine q_icc2 (z := 54) rfl rfl rfl rfl rfl ?_
              refine q_goto rfl ?_
              refine q_iload_n rfl rfl rfl ?_
              refine q_bipush rfl rfl ?_
              refine q_icge rfl rfl (fun c578 => absurd c578 (by decide)) (fun c578 => ?_)
              refine q_aload_n rfl rfl rfl ?_
              refine q_getf rfl rfl (by decide) (FW_46 S hW) rfl ?_
              refine q_bipush rfl rfl ?_
              refine q_iload_n rfl rfl rfl ?_
              refine q_imul rfl rfl (q_tn (z := 420) rfl ?_)
              refine q_iload_n rfl rfl rfl ?_
              refine q_iadd rfl rfl (q_tn (z := 474) rfl ?_)
              refine q_lconst rfl rfl ?_
              refine q_last rfl rfl (by decide) rfl (by decide) ?_
              refine q_icc2 (z := 55) rfl rfl rfl rfl rfl ?_
              refine q_goto rfl ?_
              refine q_iload_n rfl rfl rfl ?_
              refine q_bipush rfl rfl ?_
              refine q_icge rfl rfl (fun c579 => absurd c579 (by decide)) (fun c579 => ?_)
              refine q_aload_n rfl rfl rfl ?_
              refine q_getf rfl rfl (by decide) (FW_46 S hW) rfl ?_
              refine q_bipush rfl rfl ?_
              refine q_iload_n rfl rfl rfl ?_
              refine q_imul rfl rfl (q_tn (z := 420) rfl ?_)
              refine q_iload_n rfl rfl rfl ?_
              refine q_iadd rfl rfl (q_tn (z := 475) rfl ?_)
              refine q_lconst rfl rfl ?_
              refine q_last rfl rfl (by decide) rfl (by decide) ?_
              refine q_icc2 (z := 56) rfl rfl rfl rfl rfl ?_
              refine q_goto rfl ?_
              refine q_iload_n rfl rfl rfl ?_
              refine q_bipush rfl rfl ?_
              refine q_icge rfl rfl (fun c580 => absurd c580 (by decide)) (fun c580 => ?_)
              refine q_aload_n rfl rfl rfl ?_
              refine q_getf rfl rfl (by decide) (FW_46 S hW) rfl ?_
              refine q_bipush rfl rfl ?_
              refine q_iload_n rfl rfl rfl ?_
              refine q_imul rfl rfl (q_tn (z := 420) rfl ?_)
              refine q_iload_n rfl rfl rfl ?_
              refine q_iadd rfl rfl (q_tn (z := 476) rfl ?_)
              refine q_lconst rfl rfl ?_
              refine q_last rfl rfl (by decide) rfl (by decide) ?_
              refine q_icc2 (z := 57) rfl rfl rfl rfl rfl ?_
              refine q_goto rfl ?_
              refine q_iload_n rfl rfl rfl ?_
              refine q_bipush rfl rfl ?_
              refine q_icge rfl rfl (fun c581 => absurd c581 (by decide)) (fun c581 => ?_)
              refine q_aload_n rfl rfl rfl ?_
              refine q_getf rfl rfl (by decide) (FW_46 S hW) rfl ?_
              refine q_bipush rfl rfl ?_
              refine q_iload_n rfl rfl rfl ?_
              refine q_imul rfl rfl (q_tn (z := 420) rfl ?_)
              refine q_iload_n rfl rfl rfl ?_
              refine q_iadd rfl rfl (q_tn (z := 477) rfl ?_)
              refine q_lconst rfl rfl ?_
              refine q_last rfl rfl (by decide) rfl (by decide) ?_
              refine q_icc2 (z := 58) rfl rfl rfl rfl rfl ?_
              refine q_goto rfl ?_
              refine q_iload_n rfl rfl rfl ?_
              refine q_bipush rfl rfl ?_
              refine q_icge rfl rfl (fun c582 => absurd c582 (by decide)) (fun c582 => ?_)
              refine q_aload_n rfl rfl rfl ?_
              refine q_getf rfl rfl (by decide) (FW_46 S hW) rfl ?_
              refine q_bipush rfl rfl ?_
              refine q_iload_n rfl rfl rfl ?_
              refine q_imul rfl rfl (q_tn (z := 420) rfl ?_)
              refine q_iload_n rfl rfl rfl ?_
              refine q_iadd rfl rfl (q_tn (z := 478) rfl ?_)
              refine q_lconst rfl rfl ?_
              refine q_last rfl rfl (by decide) rfl (by decide) ?_
              refine q_icc2 (z := 59) rfl rfl rfl rfl rfl ?_
              refine q_goto rfl ?_
              refine q_iload_n rfl rfl rfl ?_
              refine q_bipush rfl rfl ?_
              refine q_icge rfl rfl (fun c583 => absurd c583 (by decide)) (fun c583 => ?_)
              refine q_aload_n rfl rfl rfl ?_
              refine q_getf rfl rfl (by decide) (FW_46 S hW) rfl ?_
              refine q_bipush rfl rfl ?_
              refine q_iload_n rfl rfl rfl ?_
              refine q_imul rfl rfl (q_tn (z := 420) rfl ?_)
              refine q_iload_n rfl rfl rfl ?_
              refine q_iadd rfl rfl (q_tn (z := 479) rfl ?_)
              refine q_lconst rfl rfl ?_
              refine q_last rfl rfl (by decide) rfl (by decide) ?_
              refine q_icc2 (z := 60) rfl rfl rfl rfl rfl ?_
              refine q_goto rfl ?_
              refine q_iload_n rfl rfl rfl ?_
              refine q_bipush rfl rfl ?_
              refine q_icge rfl rfl (fun c584 => ?_) (fun c584 => absurd (by decide) c584)
              refine q_ret rfl rfl ?_
              refine ⟨rfl, ?_⟩
              refine q_iconst rfl rfl ?_
              refine q_iret rfl rfl trivial ?_
              refine ⟨_, rfl, ?_⟩
              refine q_iceq rfl rfl (fun c585 => ?_) (fun c585 => absurd (by decide) c585)
              refine q_icc4 (z := 6) rfl rfl rfl rfl rfl ?_
              refine q_goto rfl ?_
              refine q_iload rfl rfl rfl ?_
              refine q_aload_nF rfl rfl rfl ?_
              refine q_alenX (x := 6) rfl rfl rfl ?_
              refine q_bipush rfl rfl ?_
              refine q_isub rfl rfl (q_tn (z := 0) rfl ?_)
              refine q_icgt rfl rfl (fun c586 => ?_) (fun c586 => absurd (by decide) c586)
              refine q_iconst rfl rfl ?_
              refine q_iret rfl rfl rfl ?_
              exact hK _ _
          · refine q_bipush rfl rfl ?_
            refine q_iret rfl rfl trivial ?_
            refine ⟨_, rfl, ?_⟩
            refine q_aload_n rfl rfl rfl ?_
            refine q_aload_nF rfl rfl rfl ?_
            refine q_iload rfl rfl rfl ?_
            refine q_iconst rfl rfl ?_
            refine q_iadd rfl rfl (q_tn (z := 1) rfl ?_)
            refine q_ialdX (x := x1) rfl rfl rfl hx1 ?_
            refine q_aload_nF rfl rfl rfl ?_
            refine q_iload rfl rfl rfl ?_
            refine q_iconst rfl rfl ?_
            refine q_iadd rfl rfl (q_tn (z := 2) rfl ?_)
            refine q_ialdX (x := 3) rfl rfl rfl hx2 ?_
            refine q_aload_nF rfl rfl rfl ?_
            refine q_iload rfl rfl rfl ?_
            refine q_iconst rfl rfl ?_
            refine q_iadd rfl rfl (q_tn (z := 3) rfl ?_)
            refine q_ialdX (x := x3) rfl rfl rfl hx3 ?_
            refine q_nV3 rfl rfl (Or.inl rfl) rfl rfl rfl (by decide) (FW_46 S hW) ⟨rfl, rfl⟩ rfl ?_
            change PQ _ _ _ mm_X12_make 0 [.ref 46, .int x1, .int 3, .int x3] [] _ _ 0 0 _
            refine q_aload_n rfl rfl rfl ?_
            refine q_iload_n rfl rfl rfl ?_
            refine q_nV1 rfl rfl (Or.inl rfl) rfl rfl rfl (by decide) (FW_46 S hW) ⟨rfl, rfl⟩ rfl ?_
            change PQ _ _ _ mm_X12_isShelf 0 [.ref 46, .int x1] [] _ _ 0 0 _
            refine q_aload_n rfl rfl rfl ?_
            refine q_iload_n rfl rfl rfl ?_
            refine q_iconst rfl rfl ?_
            refine q_bipush rfl rfl ?_
            refine q_nV3 rfl rfl (Or.inl rfl) rfl rfl rfl (by decide) (FW_46 S hW) ⟨rfl, rfl⟩ rfl ?_
            change PQ _ _ _ mm_X12_in 0 [.ref 46, .int x1, .int 0, .int 7] [] _ _ 0 0 _
            refine q_iload_n rfl rfl rfl ?_
            refine q_iload_n rfl rfl rfl ?_
            refine q_iclt rfl rfl (fun c587 => absurd c587 (i_lt_f (i_nlt c1) rfl)) (fun c587 => ?_)
            refine q_iload_n rfl rfl rfl ?_
            refine q_iload_n rfl rfl rfl ?_
            refine q_icgt rfl rfl (fun c588 => absurd c588 (i_gt_f (i_ltle (i_nle c7) (B := 7) rfl) rfl)) (fun c588 => ?_)
            refine q_iconst rfl rfl ?_
            refine q_goto rfl ?_
            refine q_iret rfl rfl rfl ?_
            refine ⟨_, rfl, ?_⟩
            refine q_iret rfl rfl rfl ?_
            refine ⟨_, rfl, ?_⟩
            refine q_ifeq rfl rfl (fun c589 => absurd c589 (by decide)) (fun c589 => ?_)
            refine q_aload_n rfl rfl rfl ?_
            refine q_iload_n rfl rfl rfl ?_
            refine q_iconst rfl rfl ?_
            refine q_iconst rfl rfl ?_
            refine q_nV3 rfl rfl (Or.inl rfl) rfl rfl rfl (by decide) (FW_46 S hW) ⟨rfl, rfl⟩ rfl ?_
            change PQ _ _ _ mm_X12_in 0 [.ref 46, .int 3, .int 3, .int 4] [] _ _ 0 0 _
            refine q_iload_n rfl rfl rfl ?_
            refine q_iload_n rfl rfl rfl ?_
            refine q_iclt rfl rfl (fun c590 => absurd c590 (by decide)) (fun c590 => ?_)
            refine q_iload_n rfl rfl rfl ?_
            refine q_iload_n rfl rfl rfl ?_
            refine q_icgt rfl rfl (fun c591 => absurd c591 (by decide)) (fun c591 => ?_)
            refine q_iconst rfl rfl ?_
            refine q_goto rfl ?_
            refine q_iret rfl rfl rfl ?_
            refine ⟨_, rfl, ?_⟩
            refine q_ifeq rfl rfl (fun c592 => absurd c592 (by decide)) (fun c592 => ?_)
            refine q_iload_n rfl rfl rfl ?_
            refine q_bipush rfl rfl ?_
            refine q_icle rfl rfl (fun c593 => ?_) (fun c593 => absurd (i_le_t (i_ltle (i_nle c17) (B := (-1)) rfl) rfl) c593)
            refine q_iload_n rfl rfl rfl ?_
            refine q_ifge rfl rfl (fun c594 => absurd c594 (i_ge_f (i_ltle (i_nle c17) (B := (-1)) rfl) rfl)) (fun c594 => ?_)
            refine q_bipush rfl rfl ?_
            refine q_iret rfl rfl trivial ?_
            refine ⟨_, rfl, ?_⟩
            refine q_iceq rfl rfl (fun c595 => ?_) (fun c595 => absurd (by decide) c595)
            refine q_icc4 (z := 6) rfl rfl rfl rfl rfl ?_
            refine q_goto rfl ?_
            refine q_iload rfl rfl rfl ?_
            refine q_aload_nF rfl rfl rfl ?_
            refine q_alenX (x := 6) rfl rfl rfl ?_
            refine q_bipush rfl rfl ?_
            refine q_isub rfl rfl (q_tn (z := 0) rfl ?_)
            refine q_icgt rfl rfl (fun c596 => ?_) (fun c596 => absurd (by decide) c596)
            refine q_iconst rfl rfl ?_
            refine q_iret rfl rfl rfl ?_
            exact hK _ _
        · refine q_iconst rfl rfl ?_
          refine q_iret rfl rfl trivial ?_
          refine ⟨_, rfl, ?_⟩
          refine q_aload_n rfl rfl rfl ?_
          refine q_aload_nF rfl rfl rfl ?_
          refine q_iload rfl rfl rfl ?_
          refine q_iconst rfl rfl ?_
          refine q_iadd rfl rfl (q_tn (z := 1) rfl ?_)
          refine q_ialdX (x := x1) rfl rfl rfl hx1 ?_
          refine q_aload_nF rfl rfl rfl ?_
          refine q_iload rfl rfl rfl ?_
          refine q_iconst rfl rfl ?_
          refine q_iadd rfl rfl (q_tn (z := 2) rfl ?_)
          refine q_ialdX (x := 3) rfl rfl rfl hx2 ?_
          refine q_aload_nF rfl rfl rfl ?_
          refine q_iload rfl rfl rfl ?_
          refine q_iconst rfl rfl ?_
          refine q_iadd rfl rfl (q_tn (z := 3) rfl ?_)
          refine q_ialdX (x := x3) rfl rfl rfl hx3 ?_
          refine q_nV3 rfl rfl (Or.inl rfl) rfl rfl rfl (by decide) (FW_46 S hW) ⟨rfl, rfl⟩ rfl ?_
          change PQ _ _ _ mm_X12_make 0 [.ref 46, .int x1, .int 3, .int x3] [] _ _ 0 0 _
          refine q_aload_n rfl rfl rfl ?_
          refine q_iload_n rfl rfl rfl ?_
          refine q_nV1 rfl rfl (Or.inl rfl) rfl rfl rfl (by decide) (FW_46 S hW) ⟨rfl, rfl⟩ rfl ?_
          change PQ _ _ _ mm_X12_isShelf 0 [.ref 46, .int x1] [] _ _ 0 0 _
          refine q_aload_n rfl rfl rfl ?_
          refine q_iload_n rfl rfl rfl ?_
          refine q_iconst rfl rfl ?_
          refine q_bipush rfl rfl ?_
          refine q_nV3 rfl rfl (Or.inl rfl) rfl rfl rfl (by decide) (FW_46 S hW) ⟨rfl, rfl⟩ rfl ?_
          change PQ _ _ _ mm_X12_in 0 [.ref 46, .int x1, .int 0, .int 7] [] _ _ 0 0 _
          refine q_iload_n rfl rfl rfl ?_
          refine q_iload_n rfl rfl rfl ?_
          refine q_iclt rfl rfl (fun c597 => absurd c597 (i_lt_f (i_nlt c1) rfl)) (fun c597 => ?_)
          refine q_iload_n rfl rfl rfl ?_
          refine q_iload_n rfl rfl rfl ?_
          refine q_icgt rfl rfl (fun c598 => absurd c598 (i_gt_f (i_ltle (i_nle c7) (B := 7) rfl) rfl)) (fun c598 => ?_)
          refine q_iconst rfl rfl ?_
          refine q_goto rfl ?_
          refine q_iret rfl rfl rfl ?_
          refine ⟨_, rfl, ?_⟩
          refine q_iret rfl rfl rfl ?_
          refine ⟨_, rfl, ?_⟩
          refine q_ifeq rfl rfl (fun c599 => absurd c599 (by decide)) (fun c599 => ?_)
          refine q_aload_n rfl rfl rfl ?_
          refine q_iload_n rfl rfl rfl ?_
          refine q_iconst rfl rfl ?_
          refine q_iconst rfl rfl ?_
          refine q_nV3 rfl rfl (Or.inl rfl) rfl rfl rfl (by decide) (FW_46 S hW) ⟨rfl, rfl⟩ rfl ?_
          change PQ _ _ _ mm_X12_in 0 [.ref 46, .int 3, .int 3, .int 4] [] _ _ 0 0 _
          refine q_iload_n rfl rfl rfl ?_
          refine q_iload_n rfl rfl rfl ?_
          refine q_iclt rfl rfl (fun c600 => absurd c600 (by decide)) (fun c600 => ?_)
          refine q_iload_n rfl rfl rfl ?_
          refine q_iload_n rfl rfl rfl ?_
          refine q_icgt rfl rfl (fun c601 => absurd c601 (by decide)) (fun c601 => ?_)
          refine q_iconst rfl rfl ?_
          refine q_goto rfl ?_
          refine q_iret rfl rfl rfl ?_
          refine ⟨_, rfl, ?_⟩
          refine q_ifeq rfl rfl (fun c602 => absurd c602 (by decide)) (fun c602 => ?_)
          refine q_iload_n rfl rfl rfl ?_
          refine q_bipush rfl rfl ?_
          refine q_icle rfl rfl (fun c603 => absurd c603 (i_le_f (i_ltge (i_nle c16) (B := 61) rfl) rfl)) (fun c603 => ?_)
          refine q_iconst rfl rfl ?_
          refine q_iret rfl rfl trivial ?_
          refine ⟨_, rfl, ?_⟩
          refine q_iceq rfl rfl (fun c604 => ?_) (fun c604 => absurd (by decide) c604)
          refine q_icc4 (z := 6) rfl rfl rfl rfl rfl ?_
          refine q_goto rfl ?_
          refine q_iload rfl rfl rfl ?_
          refine q_aload_nF rfl rfl rfl ?_
          refine q_alenX (x := 6) rfl rfl rfl ?_
          refine q_bipush rfl rfl ?_
          refine q_isub rfl rfl (q_tn (z := 0) rfl ?_)
          refine q_icgt rfl rfl (fun c605 => ?_) (fun c605 => absurd (by decide) c605)
          refine q_iconst rfl rfl ?_
          refine q_iret rfl rfl rfl ?_
          exact hK _ _
      · refine q_iload_n rfl rfl rfl ?_
        refine q_iconst rfl rfl ?_
        refine q_icne rfl rfl (fun c606 => ?_) (fun c606 => ?_)
        · subst c606
          refine q_iload_n rfl rfl rfl ?_
          refine q_bipush rfl rfl ?_
          refine q_icle rfl rfl (fun c607 => ?_) (fun c607 => ?_)
          · refine q_iload_n rfl rfl rfl ?_
            refine q_ifge rfl rfl (fun c608 => ?_) (fun c608 => ?_)
            · refine q_aload_n rfl rfl rfl ?_
              refine q_getf rfl rfl (by decide) (FW_0 S hW) rfl ?_
              refine q_iload_n rfl rfl rfl ?_
              refine q_iload_n rfl rfl rfl ?_
              refine q_iconst rfl rfl ?_
              refine q_icne rfl rfl (fun c609 => absurd c609 (by decide)) (fun c609 => ?_)
              refine q_new rfl rfl rfl rfl ?_
              refine q_dupr rfl rfl ?_
              refine q_iload_n rfl rfl rfl ?_
              refine q_nI1vA rfl rfl (Or.inl rfl) rfl rfl ⟨rfl, rfl⟩ rfl rfl rfl ?_
              change PQ _ _ _ mm_X9_init 0 [.ref 82, .int x3] [] _ _ 0 0 _
              refine q_aload_n rfl rfl rfl ?_
              refine q_nI0v rfl rfl (Or.inr rfl) rfl rfl ⟨rfl, rfl⟩ rfl ?_
              change PQ _ _ _ mm_X2_init 0 [.ref 82] [] _ _ 0 0 _
              refine q_aload_n rfl rfl rfl ?_
              refine q_objI rfl rfl rfl ?_
              refine q_ret rfl rfl ?_
              refine ⟨rfl, ?_⟩
              refine q_aload_n rfl rfl rfl ?_
              refine q_iload_n rfl rfl rfl ?_
              refine q_iconst rfl rfl ?_
              refine q_mmax (z := x3) rfl om_sr rfl rfl (if_neg (i_lt_f c608 rfl)) ?_
              refine q_newa rfl rfl (i_lt_f c608 rfl) rfl (i_b8 c608 c607 rfl) rfl (i_bs c608 c607 rfl) ?_
              refine q_putf rfl rfl (by decide) rfl (by decide) rfl trivial ?_
              refine q_ret rfl rfl ?_
              refine ⟨rfl, ?_⟩
              rcases i_en7 (i_nlt c1) (i_ltle (i_nle c7) (B := 7) rfl) with rfl | rfl | rfl | rfl | rfl | rfl | rfl | rfl
              · refine q_aast rfl rfl (by decide) (by decide) (FW_43 S hW) rfl rfl (by decide) ?_
                refine q_iconst rfl rfl ?_
                refine q_iret rfl rfl trivial ?_
                refine ⟨_, rfl, ?_⟩
                refine q_aload_n rfl rfl rfl ?_
                refine q_aload_nF rfl rfl rfl ?_
                refine q_iload rfl rfl rfl ?_
                refine q_iconst rfl rfl ?_
                refine q_iadd rfl rfl (q_tn (z := 1) rfl ?_)
                refine q_ialdX (x := 0) rfl rfl rfl hx1 ?_
                refine q_aload_nF rfl rfl rfl ?_
                refine q_iload rfl rfl rfl ?_
                refine q_iconst rfl rfl ?_
                refine q_iadd rfl rfl (q_tn (z := 2) rfl ?_)
                refine q_ialdX (x := 4) rfl rfl rfl hx2 ?_
                refine q_aload_nF rfl rfl rfl ?_
                refine q_iload rfl rfl rfl ?_
                refine q_iconst rfl rfl ?_
                refine q_iadd rfl rfl (q_tn (z := 3) rfl ?_)
                refine q_ialdX (x := x3) rfl rfl rfl hx3 ?_
                refine q_nV3 rfl rfl (Or.inl rfl) rfl rfl rfl (by decide) (FW_46 S hW) ⟨rfl, rfl⟩ rfl ?_
                change PQ _ _ _ mm_X12_make 0 [.ref 46, .int 0, .int 4, .int x3] [] _ _ 0 0 _
                refine q_aload_n rfl rfl rfl ?_
                refine q_iload_n rfl rfl rfl ?_
                refine q_nV1 rfl rfl (Or.inl rfl) rfl rfl rfl (by decide) (FW_46 S hW) ⟨rfl, rfl⟩ rfl ?_
                change PQ _ _ _ mm_X12_isShelf 0 [.ref 46, .int 0] [] _ _ 0 0 _
                refine q_aload_n rfl rfl rfl ?_
                refine q_iload_n rfl rfl rfl ?_
                refine q_iconst rfl rfl ?_
                refine q_bipush rfl rfl ?_
                refine q_nV3 rfl rfl (Or.inl rfl) rfl rfl rfl (by decide) (FW_46 S hW) ⟨rfl, rfl⟩ rfl ?_
                change PQ _ _ _ mm_X12_in 0 [.ref 46, .int 0, .int 0, .int 7] [] _ _ 0 0 _
                refine q_iload_n rfl rfl rfl ?_
                refine q_iload_n rfl rfl rfl ?_
                refine q_iclt rfl rfl (fun c610 => absurd c610 (by decide)) (fun c610 => ?_)
                refine q_iload_n rfl rfl rfl ?_
                refine q_iload_n rfl rfl rfl ?_
                refine q_icgt rfl rfl (fun c611 => absurd c611 (by decide)) (fun c611 => ?_)
                refine q_iconst rfl rfl ?_
                refine q_goto rfl ?_
                refine q_iret rfl rfl rfl ?_
                refine ⟨_, rfl, ?_⟩
                refine q_iret rfl rfl rfl ?_
                refine ⟨_, rfl, ?_⟩
                refine q_ifeq rfl rfl (fun c612 => absurd c612 (by decide)) (fun c612 => ?_)
                refine q_aload_n rfl rfl rfl ?_
                refine q_iload_n rfl rfl rfl ?_
                refine q_iconst rfl rfl ?_
                refine q_iconst rfl rfl ?_
                refine q_nV3 rfl rfl (Or.inl rfl) rfl rfl rfl (by decide) (FW_46 S hW) ⟨rfl, rfl⟩ rfl ?_
                change PQ _ _ _ mm_X12_in 0 [.ref 46, .int 4, .int 3, .int 4] [] _ _ 0 0 _
                refine q_iload_n rfl rfl rfl ?_
                refine q_iload_n rfl rfl rfl ?_
                refine q_iclt rfl rfl (fun c613 => absurd c613 (by decide)) (fun c613 => ?_)
                refine q_iload_n rfl rfl rfl ?_
                refine q_iload_n rfl rfl rfl ?_
                refine q_icgt rfl rfl (fun c614 => absurd c614 (by decide)) (fun c614 => ?_)
                refine q_iconst rfl rfl ?_
                refine q_goto rfl ?_
                refine q_iret rfl rfl rfl ?_
                refine ⟨_, rfl, ?_⟩
                refine q_ifeq rfl rfl (fun c615 => absurd c615 (by decide)) (fun c615 => ?_)
                refine q_iload_n rfl rfl rfl ?_
                refine q_bipush rfl rfl ?_
                refine q_icle rfl rfl (fun c616 => ?_) (fun c616 => absurd (i_le_t c607 rfl) c616)
                refine q_iload_n rfl rfl rfl ?_
                refine q_ifge rfl rfl (fun c617 => ?_) (fun c617 => absurd (i_ge_t c608 rfl) c617)
                refine q_aload_n rfl rfl rfl ?_
                refine q_getf rfl rfl (by decide) (FW_46 S hW) rfl ?_
                refine q_iload_n rfl rfl rfl ?_
                refine q_iload_n rfl rfl rfl ?_
                refine q_iast rfl rfl (by decide) (FW_75 S hW) (by decide) ?_
                refine q_aload_n rfl rfl rfl ?_
                refine q_getf rfl rfl (by decide) (FW_46 S hW) rfl ?_
                refine q_iload_n rfl rfl rfl ?_
                refine q_iload_n rfl rfl rfl ?_
                refine q_iast rfl rfl (by decide) (FW_78 S hW) (by decide) ?_
                refine q_aload_n rfl rfl rfl ?_
                refine q_iload_n rfl rfl rfl ?_
                refine q_nV1v rfl rfl (Or.inl rfl) rfl rfl rfl (by decide) (FW_46 S hW) ⟨rfl, rfl⟩ rfl ?_
                change PQ _ _ _ mm_X12_clear 0 [.ref 46, .int 0, pm_un] [] _ _ 0 0 _
                refine q_iconst rfl rfl ?_
                refine q_ist2n rfl rfl rfl rfl ?_
                refine q_iload_n rfl rfl rfl ?_
                refine q_bipush rfl rfl ?_
                refine q_icge rfl rfl (fun c618 => absurd c618 (by decide)) (fun c618 => ?_)
                refine q_aload_n rfl rfl rfl ?_
                refine q_getf rfl rfl (by decide) (FW_46 S hW) rfl ?_
                refine q_bipush rfl rfl ?_
                refine q_iload_n rfl rfl rfl ?_
                refine q_imul rfl rfl (q_tn (z := 0) rfl ?_)
                refine q_iload_n rfl rfl rfl ?_
                refine q_iadd rfl rfl (q_tn (z := 0) rfl ?_)
                refine q_lconst rfl rfl ?_
                refine q_last rfl rfl (by decide) (FW_79 S hW) (by decide) ?_
                refine q_icc2 (z := 1) rfl rfl rfl rfl rfl ?_
                refine q_goto rfl ?_
                refine q_iload_n rfl rfl rfl ?_
                refine q_bipush rfl rfl ?_
                refine q_icge rfl rfl (fun c619 => absurd c619 (by decide)) (fun c619 => ?_)
                refine q_aload_n rfl rfl rfl ?_
                refine q_getf rfl rfl (by decide) (FW_46 S hW) rfl ?_
                refine q_bipush rfl rfl ?_
                refine q_iload_n rfl rfl rfl ?_
                refine q_imul rfl rfl (q_tn (z := 0) rfl ?_)
                refine q_iload_n rfl rfl rfl ?_
                refine q_iadd rfl rfl (q_tn (z := 1) rfl ?_)
                refine q_lconst rfl rfl ?_
                refine q_last rfl rfl (by decide) rfl (by decide) ?_
                refine q_icc2 (z := 2) rfl rfl rfl rfl rfl ?_
                refine q_goto rfl ?_
                refine q_iload_n rfl rfl rfl ?_
                refine q_bipush rfl rfl ?_
                refine q_icge rfl rfl (fun c620 => absurd c620 (by decide)) (fun c620 => ?_)
                refine q_aload_n rfl rfl rfl ?_
                refine q_getf rfl rfl (by decide) (FW_46 S hW) rfl ?_
                refine q_bipush rfl rfl ?_
                refine q_iload_n rfl rfl rfl ?_
                refine q_imul rfl rfl (q_tn (z := 0) rfl ?_)
                refine q_iload_n rfl rfl rfl ?_
                refine q_iadd rfl rfl (q_tn (z := 2) rfl ?_)
                refine q_lconst rfl rfl ?_
                refine q_last rfl rfl (by decide) rfl (by decide) ?_
                refine q_icc2 (z := 3) rfl rfl rfl rfl rfl ?_
                refine q_goto rfl ?_
                refine q_iload_n rfl rfl rfl ?_
                refine q_bipush rfl rfl ?_
                refine q_icge rfl rfl (fun c621 => absurd c621 (by decide)) (fun c621 => ?_)
                refine q_aload_n rfl rfl rfl ?_
                refine q_getf rfl rfl (by decide) (FW_46 S hW) rfl ?_
                refine q_bipush rfl rfl ?_
                refine q_iload_n rfl rfl rfl ?_
                refine q_imul rfl rfl (q_tn (z := 0) rfl ?_)
                refine q_iload_n rfl rfl rfl ?_
                refine q_iadd rfl rfl (q_tn (z := 3) rfl ?_)
                refine q_lconst rfl rfl ?_
                refine q_last rfl rfl (by decide) rfl (by decide) ?_
                refine q_icc2 (z := 4) rfl rfl rfl rfl rfl ?_
                refine q_goto rfl ?_
                refine q_iload_n rfl rfl rfl ?_
                refine q_bipush rfl rfl ?_
                refine q_icge rfl rfl (fun c622 => absurd c622 (by decide)) (fun c622 => ?_)
                refine q_aload_n rfl rfl rfl ?_
                refine q_getf rfl rfl (by decide) (FW_46 S hW) rfl ?_
                refine q_bipush rfl rfl ?_
                refine q_iload_n rfl rfl rfl ?_
                refine q_imul rfl rfl (q_tn (z := 0) rfl ?_)
                refine q_iload_n rfl rfl rfl ?_
                refine q_iadd rfl rfl (q_tn (z := 4) rfl ?_)
                refine q_lconst rfl rfl ?_
                refine q_last rfl rfl (by decide) rfl (by decide) ?_
                refine q_icc2 (z := 5) rfl rfl rfl rfl rfl ?_
                refine q_goto rfl ?_
                refine q_iload_n rfl rfl rfl ?_
                refine q_bipush rfl rfl ?_
                refine q_icge rfl rfl (fun c623 => absurd c623 (by decide)) (fun c623 => ?_)
                refine q_aload_n rfl rfl rfl ?_
                refine q_getf rfl rfl (by decide) (FW_46 S hW) rfl ?_
                refine q_bipush rfl rfl ?_
                refine q_iload_n rfl rfl rfl ?_
                refine q_imul rfl rfl (q_tn (z := 0) rfl ?_)
                refine q_iload_n rfl rfl rfl ?_
                refine q_iadd rfl rfl (q_tn (z := 5) rfl ?_)
                refine q_lconst rfl rfl ?_
                refine q_last rfl rfl (by decide) rfl (by decide) ?_
                refine q_icc2 (z := 6) rfl rfl rfl rfl rfl ?_
                refine q_goto rfl ?_
                refine q_iload_n rfl rfl rfl ?_
                refine q_bipush rfl rfl ?_
                refine q_icge rfl rfl (fun c624 => absurd c624 (by decide)) (fun c624 => ?_)
                refine q_aload_n rfl rfl rfl ?_
                refine q_getf rfl rfl (by decide) (FW_46 S hW) rfl ?_
                refine q_bipush rfl rfl ?_
                refine q_iload_n rfl rfl rfl ?_
                refine q_imul rfl rfl (q_tn (z := 0) rfl ?_)
                refine q_iload_n rfl rfl rfl ?_
                refine q_iadd rfl rfl (q_tn (z := 6) rfl ?_)
                refine q_lconst rfl rfl ?_
                refine q_last rfl rfl (by decide) rfl (by decide) ?_
                refine q_icc2 (z := 7) rfl rfl rfl rfl rfl ?_
                refine q_goto rfl ?_
                refine q_iload_n rfl rfl rfl ?_
                refine q_bipush rfl rfl ?_
                refine q_icge rfl rfl (fun c625 => absurd c625 (by decide)) (fun c625 => ?_)
                refine q_aload_n rfl rfl rfl ?_
                refine q_getf rfl rfl (by decide) (FW_46 S hW) rfl ?_
                refine q_bipush rfl rfl ?_
                refine q_iload_n rfl rfl rfl ?_
                refine q_imul rfl rfl (q_tn (z := 0) rfl ?_)
                refine q_iload_n rfl rfl rfl ?_
                refine q_iadd rfl rfl (q_tn (z := 7) rfl ?_)
                refine q_lconst rfl rfl ?_
                refine q_last rfl rfl (by decide) rfl (by decide) ?_
                refine q_icc2 (z := 8) rfl rfl rfl rfl rfl ?_
                refine q_goto rfl ?_
                refine q_iload_n rfl rfl rfl ?_
                refine q_bipush rfl rfl ?_
                refine q_icge rfl rfl (fun c626 => absurd c626 (by decide)) (fun c626 => ?_)
                refine q_aload_n rfl rfl rfl ?_
                refine q_getf rfl rfl (by decide) (FW_46 S hW) rfl ?_
                refine q_bipush rfl rfl ?_
                refine q_iload_n rfl rfl rfl ?_
                refine q_imul rfl rfl (q_tn (z := 0) rfl ?_)
                refine q_iload_n rfl rfl rfl ?_
                refine q_iadd rfl rfl (q_tn (z := 8) rfl ?_)
                refine q_lconst rfl rfl ?_
                refine q_last rfl rfl (by decide) rfl (by decide) ?_
                refine q_icc2 (z := 9) rfl rfl rfl rfl rfl ?_
                refine q_goto rfl ?_
                refine q_iload_n rfl rfl rfl ?_
                refine q_bipush rfl rfl ?_
                refine q_icge rfl rfl (fun c627 => absurd c627 (by decide)) (fun c627 => ?_)
                refine q_aload_n rfl rfl rfl ?_
                refine q_getf rfl rfl (by decide) (FW_46 S hW) rfl ?_
                refine q_bipush rfl rfl ?_
                refine q_iload_n rfl rfl rfl ?_
                refine q_imul rfl rfl (q_tn (z := 0) rfl ?_)
                refine q_iload_n rfl rfl rfl ?_
                refine q_iadd rfl rfl (q_tn (z := 9) rfl ?_)
                refine q_lconst rfl rfl ?_
                refine q_last rfl rfl (by decide) rfl (by decide) ?_
                refine q_icc2 (z := 10) rfl rfl rfl rfl rfl ?_
                refine q_goto rfl ?_
                refine q_iload_n rfl rfl rfl ?_
                refine q_bipush rfl rfl ?_
                refine q_icge rfl rfl (fun c628 => absurd c628 (by decide)) (fun c628 => ?_)
                refine q_aload_n rfl rfl rfl ?_
                refine q_getf rfl rfl (by decide) (FW_46 S hW) rfl ?_
                refine q_bipush rfl rfl ?_
                refine q_iload_n rfl rfl rfl ?_
                refine q_imul rfl rfl (q_tn (z := 0) rfl ?_)
                refine q_iload_n rfl rfl rfl ?_
                refine q_iadd rfl rfl (q_tn (z := 10) rfl ?_)
                refine q_lconst rfl rfl ?_
                refine q_last rfl rfl (by decide) rfl (by decide) ?_
                refine q_icc2 (z := 11) rfl rfl rfl rfl rfl ?_
                refine q_goto rfl ?_
                refine q_iload_n rfl rfl rfl ?_
                refine q_bipush rfl rfl ?_
                refine q_icge rfl rfl (fun c629 => absurd c629 (by decide)) (fun c629 => ?_)
                refine q_aload_n rfl rfl rfl ?_
                refine q_getf rfl rfl (by decide) (FW_46 S hW) rfl ?_
                refine q_bipush rfl rfl ?_
                refine q_iload_n rfl rfl rfl ?_
                refine q_imul rfl rfl (q_tn (z := 0) rfl ?_)
                refine q_iload_n rfl rfl rfl ?_
                refine q_iadd rfl rfl (q_tn (z := 11) rfl ?_)
                refine q_lconst rfl rfl ?_
                refine q_last rfl rfl (by decide) rfl (by decide) ?_
                refine q_icc2 (z := 12) rfl rfl rfl rfl rfl ?_
                refine q_goto rfl ?_
                refine q_iload_n rfl rfl rfl ?_
                refine q_bipush rfl rfl ?_
                refine q_icge rfl rfl (fun c630 => absurd c630 (by decide)) (fun c630 => ?_)
                refine q_aload_n rfl rfl rfl ?_
                refine q_getf rfl rfl (by decide) (FW_46 S hW) rfl ?_
                refine q_bipush rfl rfl ?_
                refine q_iload_n rfl rfl rfl ?_
                refine q_imul rfl rfl (q_tn (z := 0) rfl ?_)
                refine q_iload_n rfl rfl rfl ?_
                refine q_iadd rfl rfl (q_tn (z := 12) rfl ?_)
                refine q_lconst rfl rfl ?_
                refine q_last rfl rfl (by decide) rfl (by decide) ?_
                refine q_icc2 (z := 13) rfl rfl rfl rfl rfl ?_
                refine q_goto rfl ?_
                refine q_iload_n rfl rfl rfl ?_
                refine q_bipush rfl rfl ?_
                refine q_icge rfl rfl (fun c631 => absurd c631 (by decide)) (fun c631 => ?_)
                refine q_aload_n rfl rfl rfl ?_
                refine q_getf rfl rfl (by decide) (FW_46 S hW) rfl ?_
                refine q_bipush rfl rfl ?_
                refine q_iload_n rfl rfl rfl ?_
                refine q_imul rfl rfl (q_tn (z := 0) rfl ?_)
                refine q_iload_n rfl rfl rfl ?_
                refine q_iadd rfl rfl (q_tn (z := 13) rfl ?_)
                refine q_lconst rfl rfl ?_
                refine q_last rfl rfl (by decide) rfl (by decide) ?_
                refine q_icc2 (z := 14) rfl rfl rfl rfl rfl ?_
                refine q_goto rfl ?_
                refine q_iload_n rfl rfl rfl ?_
                refine q_bipush rfl rfl ?_
                refine q_icge rfl rfl (fun c632 => absurd c632 (by decide)) (fun c632 => ?_)
                refine q_aload_n rfl rfl rfl ?_
                refine q_getf rfl rfl (by decide) (FW_46 S hW) rfl ?_
                refine q_bipush rfl rfl ?_
                refine q_iload_n rfl rfl rfl ?_
                refine q_imul rfl rfl (q_tn (z := 0) rfl ?_)
                refine q_iload_n rfl rfl rfl ?_
                refine q_iadd rfl rfl (q_tn (z := 14) rfl ?_)
                refine q_lconst rfl rfl ?_
                refine q_last rfl rfl (by decide) rfl (by decide) ?_
                refine q_icc2 (z := 15) rfl rfl rfl rfl rfl ?_
                refine q_goto rfl ?_
                refine q_iload_n rfl rfl rfl ?_
                refine q_bipush rfl rfl ?_
                refine q_icge rfl rfl (fun c633 => absurd c633 (by decide)) (fun c633 => ?_)
                refine q_aload_n rfl rfl rfl ?_
                refine q_getf rfl rfl (by decide) (FW_46 S hW) rfl ?_
                refine q_bipush rfl rfl ?_
                refine q_iload_n rfl rfl rfl ?_
                refine q_imul rfl rfl (q_tn (z := 0) rfl ?_)
                refine q_iload_n rfl rfl rfl ?_
                refine q_iadd rfl rfl (q_tn (z := 15) rfl ?_)
                refine q_lconst rfl rfl ?_
                refine q_last rfl rfl (by decide) rfl (by decide) ?_
                refine q_icc2 (z := 16) rfl rfl rfl rfl rfl ?_
                refine q_goto rfl ?_
                refine q_iload_n rfl rfl rfl ?_
                refine q_bipush rfl rfl ?_
                refine q_icge rfl rfl (fun c634 => absurd c634 (by decide)) (fun c634 => ?_)
                refine q_aload_n rfl rfl rfl ?_
                refine q_getf rfl rfl (by decide) (FW_46 S hW) rfl ?_
                refine q_bipush rfl rfl ?_
                refine q_iload_n rfl rfl rfl ?_
                refine q_imul rfl rfl (q_tn (z := 0) rfl ?_)
                refine q_iload_n rfl rfl rfl ?_
                refine q_iadd rfl rfl (q_tn (z := 16) rfl ?_)
                refine q_lconst rfl rfl ?_
                refine q_last rfl rfl (by decide) rfl (by decide) ?_
                refine q_icc2 (z := 17) rfl rfl rfl rfl rfl ?_
                refine q_goto rfl ?_
                refine q_iload_n rfl rfl rfl ?_
                refine q_bipush rfl rfl ?_
                refine q_icge rfl rfl (fun c635 => absurd c635 (by decide)) (fun c635 => ?_)
                refine q_aload_n rfl rfl rfl ?_
                refine q_getf rfl rfl (by decide) (FW_46 S hW) rfl ?_
                refine q_bipush rfl rfl ?_
                refine q_iload_n rfl rfl rfl ?_
                refine q_imul rfl rfl (q_tn (z := 0) rfl ?_)
                refine q_iload_n rfl rfl rfl ?_
                refine q_iadd rfl rfl (q_tn (z := 17) rfl ?_)
                refine q_lconst rfl rfl ?_
                refine q_last rfl rfl (by decide) rfl (by decide) ?_
                refine q_icc2 (z := 18) rfl rfl rfl rfl rfl ?_
                refine q_goto rfl ?_
                refine q_iload_n rfl rfl rfl ?_
                refine q_bipush rfl rfl ?_
                refine q_icge rfl rfl (fun c636 => absurd c636 (by decide)) (fun c636 => ?_)
                refine q_aload_n rfl rfl rfl ?_
                refine q_getf rfl rfl (by decide) (FW_46 S hW) rfl ?_
                refine q_bipush rfl rfl ?_
                refine q_iload_n rfl rfl rfl ?_
                refine q_imul rfl rfl (q_tn (z := 0) rfl ?_)
                refine q_iload_n rfl rfl rfl ?_
                refine q_iadd rfl rfl (q_tn (z := 18) rfl ?_)
                refine q_lconst rfl rfl ?_
                refine q_last rfl rfl (by decide) rfl (by decide) ?_
                refine q_icc2 (z := 19) rfl rfl rfl rfl rfl ?_
                refine q_goto rfl ?_
                refine q_iload_n rfl rfl rfl ?_
                refine q_bipush rfl rfl ?_
                refine q_icge rfl rfl (fun c637 => absurd c637 (by decide)) (fun c637 => ?_)
                refine q_aload_n rfl rfl rfl ?_
                refine q_getf rfl rfl (by decide) (FW_46 S hW) rfl ?_
                refine q_bipush rfl rfl ?_
                refine q_iload_n rfl rfl rfl ?_
                refine q_imul rfl rfl (q_tn (z := 0) rfl ?_)
                refine q_iload_n rfl rfl rfl ?_
                refine q_iadd rfl rfl (q_tn (z := 19) rfl ?_)
                refine q_lconst rfl rfl ?_
                refine q_last rfl rfl (by decide) rfl (by decide) ?_
                refine q_icc2 (z := 20) rfl rfl rfl rfl rfl ?_
                refine q_goto rfl ?_
                refine q_iload_n rfl rfl rfl ?_
                refine q_bipush rfl rfl ?_
                refine q_icge rfl rfl (fun c638 => absurd c638 (by decide)) (fun c638 => ?_)
                refine q_aload_n rfl rfl rfl ?_
                refine q_getf rfl rfl (by decide) (FW_46 S hW) rfl ?_
                refine q_bipush rfl rfl ?_
                refine q_iload_n rfl rfl rfl ?_
                refine q_imul rfl rfl (q_tn (z := 0) rfl ?_)
                refine q_iload_n rfl rfl rfl ?_
                refine q_iadd rfl rfl (q_tn (z := 20) rfl ?_)
                refine q_lconst rfl rfl ?_
                refine q_last rfl rfl (by decide) rfl (by decide) ?_
                refine q_icc2 (z := 21) rfl rfl rfl rfl rfl ?_
                refine q_goto rfl ?_
                refine q_iload_n rfl rfl rfl ?_
                refine q_bipush rfl rfl ?_
                refine q_icge rfl rfl (fun c639 => absurd c639 (by decide)) (fun c639 => ?_)
                refine q_aload_n rfl rfl rfl ?_
                refine q_getf rfl rfl (by decide) (FW_46 S hW) rfl ?_
                refine q_bipush rfl rfl ?_
                refine q_iload_n rfl rfl rfl ?_
                refine q_imul rfl rfl (q_tn (z := 0) rfl ?_)
                refine q_iload_n rfl rfl rfl ?_
                refine q_iadd rfl rfl (q_tn (z := 21) rfl ?_)
                refine q_lconst rfl rfl ?_
                refine q_last rfl rfl (by decide) rfl (by decide) ?_
                refine q_icc2 (z := 22) rfl rfl rfl rfl rfl ?_
                refine q_goto rfl ?_
                refine q_iload_n rfl rfl rfl ?_
                refine q_bipush rfl rfl ?_
                refine q_icge rfl rfl (fun c640 => absurd c640 (by decide)) (fun c640 => ?_)
                refine q_aload_n rfl rfl rfl ?_
                refine q_getf rfl rfl (by decide) (FW_46 S hW) rfl ?_
                refine q_bipush rfl rfl ?_
                refine q_iload_n rfl rfl rfl ?_
                refine q_imul rfl rfl (q_tn (z := 0) rfl ?_)
                refine q_iload_n rfl rfl rfl ?_
                refine q_iadd rfl rfl (q_tn (z := 22) rfl ?_)
                refine q_lconst rfl rfl ?_
                refine q_last rfl rfl (by decide) rfl (by decide) ?_
                refine q_icc2 (z := 23) rfl rfl rfl rfl rfl ?_
                refine q_goto rfl ?_
                refine q_iload_n rfl rfl rfl ?_
                refine q_bipush rfl rfl ?_
                refine q_icge rfl rfl (fun c641 => absurd c641 (by decide)) (fun c641 => ?_)
                refine q_aload_n rfl rfl rfl ?_
                refine q_getf rfl rfl (by decide) (FW_46 S hW) rfl ?_
                refine q_bipush rfl rfl ?_
                refine q_iload_n rfl rfl rfl ?_
                refine q_imul rfl rfl (q_tn (z := 0) rfl ?_)
                refine q_iload_n rfl rfl rfl ?_
                refine q_iadd rfl rfl (q_tn (z := 23) rfl ?_)
                refine q_lconst rfl rfl ?_
                refine q_last rfl rfl (by decide) rfl (by decide) ?_
                refine q_icc2 (z := 24) rfl rfl rfl rfl rfl ?_
                refine q_goto rfl ?_
                refine q_iload_n rfl rfl rfl ?_
                refine q_bipush rfl rfl ?_
                refine q_icge rfl rfl (fun c642 => absurd c642 (by decide)) (fun c642 => ?_)
                refine q_aload_n rfl rfl rfl ?_
                refine q_getf rfl rfl (by decide) (FW_46 S hW) rfl ?_
                refine q_bipush rfl rfl ?_
                refine q_iload_n rfl rfl rfl ?_
                refine q_imul rfl rfl (q_tn (z := 0) rfl ?_)
                refine q_iload_n rfl rfl rfl ?_
                refine q_iadd rfl rfl (q_tn (z := 24) rfl ?_)
                refine q_lconst rfl rfl ?_
                refine q_last rfl rfl (by decide) rfl (by decide) ?_
                refine q_icc2 (z := 25) rfl rfl rfl rfl rfl ?_
                refine q_goto rfl ?_
                refine q_iload_n rfl rfl rfl ?_
                refine q_bipush rfl rfl ?_
                refine q_icge rfl rfl (fun c643 => absurd c643 (by decide)) (fun c643 => ?_)
                refine q_aload_n rfl rfl rfl ?_
                refine q_getf rfl rfl (by decide) (FW_46 S hW) rfl ?_
                refine q_bipush rfl rfl ?_
                refine q_iload_n rfl rfl rfl ?_
                refine q_imul rfl rfl (q_tn (z := 0) rfl ?_)
                refine q_iload_n rfl rfl rfl ?_
                refine q_iadd rfl rfl (q_tn (z := 25) rfl ?_)
                refine q_lconst rfl rfl ?_
                refine q_last rfl rfl (by decide) rfl (by decide) ?_
                refine q_icc2 (z := 26) rfl rfl rfl rfl rfl ?_
                refine q_goto rfl ?_
                refine q_iload_n rfl rfl rfl ?_
                refine q_bipush rfl rfl ?_
                refine q_icge rfl rfl (fun c644 => absurd c644 (by decide)) (fun c644 => ?_)
                refine q_aload_n rfl rfl rfl ?_
                refine q_getf rfl rfl (by decide) (FW_46 S hW) rfl ?_
                refine q_bipush rfl rfl ?_
                refine q_iload_n rfl rfl rfl ?_
                refine q_imul rfl rfl (q_tn (z := 0) rfl ?_)
                refine q_iload_n rfl rfl rfl ?_
                refine q_iadd rfl rfl (q_tn (z := 26) rfl ?_)
                refine q_lconst rfl rfl ?_
                refine q_last rfl rfl (by decide) rfl (by decide) ?_
                refine q_icc2 (z := 27) rfl rfl rfl rfl rfl ?_
                refine q_goto rfl ?_
                refine q_iload_n rfl rfl rfl ?_
                refine q_bipush rfl rfl ?_
                refine q_icge rfl rfl (fun c645 => absurd c645 (by decide)) (fun c645 => ?_)
                refine q_aload_n rfl rfl rfl ?_
                refine q_getf rfl rfl (by decide) (FW_46 S hW) rfl ?_
                refine q_bipush rfl rfl ?_
                refine q_iload_n rfl rfl rfl ?_
                refine q_imul rfl rfl (q_tn (z := 0) rfl ?_)
                refine q_iload_n rfl rfl rfl ?_
                refine q_iadd rfl rfl (q_tn (z := 27) rfl ?_)
                refine q_lconst rfl rfl ?_
                refine q_last rfl rfl (by decide) rfl (by decide) ?_
                refine q_icc2 (z := 28) rfl rfl rfl rfl rfl ?_
                refine q_goto rfl ?_
                refine q_iload_n rfl rfl rfl ?_
                refine q_bipush rfl rfl ?_
                refine q_icge rfl rfl (fun c646 => absurd c646 (by decide)) (fun c646 => ?_)
                refine q_aload_n rfl rfl rfl ?_
                refine q_getf rfl rfl (by decide) (FW_46 S hW) rfl ?_
                refine q_bipush rfl rfl ?_
                refine q_iload_n rfl rfl rfl ?_
                refine q_imul rfl rfl (q_tn (z := 0) rfl ?_)
                refine q_iload_n rfl rfl rfl ?_
                refine q_iadd rfl rfl (q_tn (z := 28) rfl ?_)
                refine q_lconst rfl rfl ?_
                refine q_last rfl rfl (by decide) rfl (by decide) ?_
                refine q_icc2 (z := 29) rfl rfl rfl rfl rfl ?_
                refine q_goto rfl ?_
                refine q_iload_n rfl rfl rfl ?_
                refine q_bipush rfl rfl ?_
                refine q_icge rfl rfl (fun c647 => absurd c647 (by decide)) (fun c647 => ?_)
                refine q_aload_n rfl rfl rfl ?_
                refine q_getf rfl rfl (by decide) (FW_46 S hW) rfl ?_
                refine q_bipush rfl rfl ?_
                refine q_iload_n rfl rfl rfl ?_
                refine q_imul rfl rfl (q_tn (z := 0) rfl ?_)
                refine q_iload_n rfl rfl rfl ?_
                refine q_iadd rfl rfl (q_tn (z := 29) rfl ?_)
                refine q_lconst rfl rfl ?_
                refine q_last rfl rfl (by decide) rfl (by decide) ?_
                refine q_icc2 (z := 30) rfl rfl rfl rfl rfl ?_
                refine q_goto rfl ?_
                refine q_iload_n rfl rfl rfl ?_
                refine q_bipush rfl rfl ?_
                refine q_icge rfl rfl (fun c648 => absurd c648 (by decide)) (fun c648 => ?_)
                refine q_aload_n rfl rfl rfl ?_
                refine q_getf rfl rfl (by decide) (FW_46 S hW) rfl ?_
                refine q_bipush rfl rfl ?_
                refine q_iload_n rfl rfl rfl ?_
                refine q_imul rfl rfl (q_tn (z := 0) rfl ?_)
                refine q_iload_n rfl rfl rfl ?_
                refine q_iadd rfl rfl (q_tn (z := 30) rfl ?_)
                refine q_lconst rfl rfl ?_
                refine q_last rfl rfl (by decide) rfl (by decide) ?_
                refine q_icc2 (z := 31) rfl rfl rfl rfl rfl ?_
                refine q_goto rfl ?_
                refine q_iload_n rfl rfl rfl ?_
                refine q_bipush rfl rfl ?_
                refine q_icge rfl rfl (fun c649 => absurd c649 (by decide)) (fun c649 => ?_)
                refine q_aload_n rfl rfl rfl ?_
                refine q_getf rfl rfl (by decide) (FW_46 S hW) rfl ?_
                refine q_bipush rfl rfl ?_
                refine q_iload_n rfl rfl rfl ?_
                refine q_imul rfl rfl (q_tn (z := 0) rfl ?_)
                refine q_iload_n rfl rfl rfl ?_
                refine q_iadd rfl rfl (q_tn (z := 31) rfl ?_)
                refine q_lconst rfl rfl ?_
                refine q_last rfl rfl (by decide) rfl (by decide) ?_
                refine q_icc2 (z := 32) rfl rfl rfl rfl rfl ?_
                refine q_goto rfl ?_
                refine q_iload_n rfl rfl rfl ?_
                refine q_bipush rfl rfl ?_
                refine q_icge rfl rfl (fun c650 => absurd c650 (by decide)) (fun c650 => ?_)
                refine q_aload_n rfl rfl rfl ?_
                refine q_getf rfl rfl (by decide) (FW_46 S hW) rfl ?_
                refine q_bipush rfl rfl ?_
                refine q_iload_n rfl rfl rfl ?_
                refine q_imul rfl rfl (q_tn (z := 0) rfl ?_)
                refine q_iload_n rfl rfl rfl ?_
                refine q_iadd rfl rfl (q_tn (z := 32) rfl ?_)
                refine q_lconst rfl rfl ?_
                refine q_last rfl rfl (by decide) rfl (by decide) ?_
                refine q_icc2 (z := 33) rfl rfl rfl rfl rfl ?_
                refine q_goto rfl ?_
                refine q_iload_n rfl rfl rfl ?_
                refine q_bipush rfl rfl ?_
                refine q_icge rfl rfl (fun c651 => absurd c651 (by decide)) (fun c651 => ?_)
                refine q_aload_n rfl rfl rfl ?_
                refine q_getf rfl rfl (by decide) (FW_46 S hW) rfl ?_
                refine q_bipush rfl rfl ?_
                refine q_iload_n rfl rfl rfl ?_
                refine q_imul rfl rfl (q_tn (z := 0) rfl ?_)
                refine q_iload_n rfl rfl rfl ?_
                refine q_iadd rfl rfl (q_tn (z := 33) rfl ?_)
                refine q_lconst rfl rfl ?_
                refine q_last rfl rfl (by decide) rfl (by decide) ?_
                refine q_icc2 (z := 34) rfl rfl rfl rfl rfl ?_
                refine q_goto rfl ?_
                refine q_iload_n rfl rfl rfl ?_
                refine q_bipush rfl rfl ?_
                refine q_icge rfl rfl (fun c652 => absurd c652 (by decide)) (fun c652 => ?_)
                refine q_aload_n rfl rfl rfl ?_
                refine q_getf rfl rfl (by decide) (FW_46 S hW) rfl ?_
                refine q_bipush rfl rfl ?_
                refine q_iload_n rfl rfl rfl ?_
                refine q_imul rfl rfl (q_tn (z := 0) rfl ?_)
                refine q_iload_n rfl rfl rfl ?_
                refine q_iadd rfl rfl (q_tn (z := 34) rfl ?_)
                refine q_lconst rfl rfl ?_
                refine q_last rfl rfl (by decide) rfl (by decide) ?_
                refine q_icc2 (z := 35) rfl rfl rfl rfl rfl ?_
                refine q_goto rfl ?_
                refine q_iload_n rfl rfl rfl ?_
                refine q_bipush rfl rfl ?_
                refine q_icge rfl rfl (fun c653 => absurd c653 (by decide)) (fun c653 => ?_)
                refine q_aload_n rfl rfl rfl ?_
                refine q_getf rfl rfl (by decide) (FW_46 S hW) rfl ?_
                refine q_bipush rfl rfl ?_
                refine q_iload_n rfl rfl rfl ?_
                refine q_imul rfl rfl (q_tn (z := 0) rfl ?_)
                refine q_iload_n rfl rfl rfl ?_
                refine q_iadd rfl rfl (q_tn (z := 35) rfl ?_)
                refine q_lconst rfl rfl ?_
                refine q_last rfl rfl (by decide) rfl (by decide) ?_
                refine q_icc2 (z := 36) rfl rfl rfl rfl rfl ?_
                refine q_goto rfl ?_
                refine q_iload_n rfl rfl rfl ?_
                refine q_bipush rfl rfl ?_
                refine q_icge rfl rfl (fun c654 => absurd c654 (by decide)) (fun c654 => ?_)
                refine q_aload_n rfl rfl rfl ?_
                refine q_getf rfl rfl (by decide) (FW_46 S hW) rfl ?_
                refine q_bipush rfl rfl ?_
                refine q_iload_n rfl rfl rfl ?_
                refine q_imul rfl rfl (q_tn (z := 0) rfl ?_)
                refine q_iload_n rfl rfl rfl ?_
                refine q_iadd rfl rfl (q_tn (z := 36) rfl ?_)
                refine q_lconst rfl rfl ?_
                refine q_last rfl rfl (by decide) rfl (by decide) ?_
                refine q_icc2 (z := 37) rfl rfl rfl rfl rfl ?_
                refine q_goto rfl ?_
                refine q_iload_n rfl rfl rfl ?_
                refine q_bipush rfl rfl ?_
                refine q_icge rfl rfl (fun c655 => absurd c655 (by decide)) (fun c655 => ?_)
                refine q_aload_n rfl rfl rfl ?_
                refine q_getf rfl rfl (by decide) (FW_46 S hW) rfl ?_
                refine q_bipush rfl rfl ?_
                refine q_iload_n rfl rfl rfl ?_
                refine q_imul rfl rfl (q_tn (z := 0) rfl ?_)
                refine q_iload_n rfl rfl rfl ?_
                refine q_iadd rfl rfl (q_tn (z := 37) rfl ?_)
                refine q_lconst rfl rfl ?_
                refine q_last rfl rfl (by decide) rfl (by decide) ?_
                refine q_icc2 (z := 38) rfl rfl rfl rfl rfl ?_
                refine q_goto rfl ?_
                refine q_iload_n rfl rfl rfl ?_
                refine q_bipush rfl rfl ?_
                refine q_icge rfl rfl (fun c656 => absurd c656 (by decide)) (fun c656 => ?_)
                refine q_aload_n rfl rfl rfl ?_
                refine q_getf rfl rfl (by decide) (FW_46 S hW) rfl ?_
                refine q_bipush rfl rfl ?_
                refine q_iload_n rfl rfl rfl ?_
                refine q_imul rfl rfl (q_tn (z := 0) rfl ?_)
                refine q_iload_n rfl rfl rfl ?_
                refine q_iadd rfl rfl (q_tn (z := 38) rfl ?_)
                refine q_lconst rfl rfl ?_
                refine q_last rfl rfl (by decide) rfl (by decide) ?_
                refine q_icc2 (z := 39) rfl rfl rfl rfl rfl ?_
                refine q_goto rfl ?_
                refine q_iload_n rfl rfl rfl ?_
                refine q_bipush rfl rfl ?_
                refine q_icge rfl rfl (fun c657 => absurd c657 (by decide)) (fun c657 => ?_)
                refine q_aload_n rfl rfl rfl ?_
                refine q_getf rfl rfl (by decide) (FW_46 S hW) rfl ?_
                refine q_bipush rfl rfl ?_
                refine q_iload_n rfl rfl rfl ?_
                refine q_imul rfl rfl (q_tn (z := 0) rfl ?_)
                refine q_iload_n rfl rfl rfl ?_
                refine q_iadd rfl rfl (q_tn (z := 39) rfl ?_)
                refine q_lconst rfl rfl ?_
                refine q_last rfl rfl (by decide) rfl (by decide) ?_
                refine q_icc2 (z := 40) rfl rfl rfl rfl rfl ?_
                refine q_goto rfl ?_
                refine q_iload_n rfl rfl rfl ?_
                refine q_bipush rfl rfl ?_
                refine q_icge rfl rfl (fun c658 => absurd c658 (by decide)) (fun c658 => ?_)
                refine q_aload_n rfl rfl rfl ?_
                refine q_getf rfl rfl (by decide) (FW_46 S hW) rfl ?_
                refine q_bipush rfl rfl ?_
                refine q_iload_n rfl rfl rfl ?_
                refine q_imul rfl rfl (q_tn (z := 0) rfl ?_)
                refine q_iload_n rfl rfl rfl ?_
                refine q_iadd rfl rfl (q_tn (z := 40) rfl ?_)
                refine q_lconst rfl rfl ?_
                refine q_last rfl rfl (by decide) rfl (by decide) ?_
                refine q_icc2 (z := 41) rfl rfl rfl rfl rfl ?_
                refine q_goto rfl ?_
                refine q_iload_n rfl rfl rfl ?_
                refine q_bipush rfl rfl ?_
                refine q_icge rfl rfl (fun c659 => absurd c659 (by decide)) (fun c659 => ?_)
                refine q_aload_n rfl rfl rfl ?_
                refine q_getf rfl rfl (by decide) (FW_46 S hW) rfl ?_
                refine q_bipush rfl rfl ?_
                refine q_iload_n rfl rfl rfl ?_
                refine q_imul rfl rfl (q_tn (z := 0) rfl ?_)
                refine q_iload_n rfl rfl rfl ?_
                refine q_iadd rfl rfl (q_tn (z := 41) rfl ?_)
                refine q_lconst rfl rfl ?_
                refine q_last rfl rfl (by decide) rfl (by decide) ?_
                refine q_icc2 (z := 42) rfl rfl rfl rfl rfl ?_
                refine q_goto rfl ?_
                refine q_iload_n rfl rfl rfl ?_
                refine q_bipush rfl rfl ?_
                refine q_icge rfl rfl (fun c660 => absurd c660 (by decide)) (fun c660 => ?_)
                refine q_aload_n rfl rfl rfl ?_
                refine q_getf rfl rfl (by decide) (FW_46 S hW) rfl ?_
                refine q_bipush rfl rfl ?_
                refine q_iload_n rfl rfl rfl ?_
                refine q_imul rfl rfl (q_tn (z := 0) rfl ?_)
                refine q_iload_n rfl rfl rfl ?_
                refine q_iadd rfl rfl (q_tn (z := 42) rfl ?_)
                refine q_lconst rfl rfl ?_
                refine q_last rfl rfl (by decide) rfl (by decide) ?_
                refine q_icc2 (z := 43) rfl rfl rfl rfl rfl ?_
                refine q_goto rfl ?_
                refine q_iload_n rfl rfl rfl ?_
                refine q_bipush rfl rfl ?_
                refine q_icge rfl rfl (fun c661 => absurd c661 (by decide)) (fun c661 => ?_)
                refine q_aload_n rfl rfl rfl ?_
                refine q_getf rfl rfl (by decide) (FW_46 S hW) rfl ?_
                refine q_bipush rfl rfl ?_
                refine q_iload_n rfl rfl rfl ?_
                refine q_imul rfl rfl (q_tn (z := 0) rfl ?_)
                refine q_iload_n rfl rfl rfl ?_
                refine q_iadd rfl rfl (q_tn (z := 43) rfl ?_)
                refine q_lconst rfl rfl ?_
                refine q_last rfl rfl (by decide) rfl (by decide) ?_
                refine q_icc2 (z := 44) rfl rfl rfl rfl rfl ?_
                refine q_goto rfl ?_
                refine q_iload_n rfl rfl rfl ?_
                refine q_bipush rfl rfl ?_
                refine q_icge rfl rfl (fun c662 => absurd c662 (by decide)) (fun c662 => ?_)
                refine q_aload_n rfl rfl rfl ?_
                refine q_getf rfl rfl (by decide) (FW_46 S hW) rfl ?_
                refine q_bipush rfl rfl ?_
                refine q_iload_n rfl rfl rfl ?_
                refine q_imul rfl rfl (q_tn (z := 0) rfl ?_)
                refine q_iload_n rfl rfl rfl ?_
                refine q_iadd rfl rfl (q_tn (z := 44) rfl ?_)
                refine q_lconst rfl rfl ?_
                refine q_last rfl rfl (by decide) rfl (by decide) ?_
                refine q_icc2 (z := 45) rfl rfl rfl rfl rfl ?_
                refine q_goto rfl ?_
                refine q_iload_n rfl rfl rfl ?_
                refine q_bipush rfl rfl ?_
                refine q_icge rfl rfl (fun c663 => absurd c663 (by decide)) (fun c663 => ?_)
                refine q_aload_n rfl rfl rfl ?_
                refine q_getf rfl rfl (by decide) (FW_46 S hW) rfl ?_
                refine q_bipush rfl rfl ?_
                refine q_iload_n rfl rfl rfl ?_
                refine q_imul rfl rfl (q_tn (z := 0) rfl ?_)
                refine q_iload_n rfl rfl rfl ?_
                refine q_iadd rfl rfl (q_tn (z := 45) rfl ?_)
                refine q_lconst rfl rfl ?_
                refine q_last rfl rfl (by decide) rfl (by decide) ?_
                refine q_icc2 (z := 46) rfl rfl rfl rfl rfl ?_
                refine q_goto rfl ?_
                refine q_iload_n rfl rfl rfl ?_
                refine q_bipush rfl rfl ?_
                refine q_icge rfl rfl (fun c664 => absurd c664 (by decide)) (fun c664 => ?_)
                refine q_aload_n rfl rfl rfl ?_
                refine q_getf rfl rfl (by decide) (FW_46 S hW) rfl ?_
                refine q_bipush rfl rfl ?_
                refine q_iload_n rfl rfl rfl ?_
                refine q_imul rfl rfl (q_tn (z := 0) rfl ?_)
                refine q_iload_n rfl rfl rfl ?_
                refine q_iadd rfl rfl (q_tn (z := 46) rfl ?_)
                refine q_lconst rfl rfl ?_
                refine q_last rfl rfl (by decide) rfl (by decide) ?_
                refine q_icc2 (z := 47) rfl rfl rfl rfl rfl ?_
                refine q_goto rfl ?_
                refine q_iload_n rfl rfl rfl ?_
                refine q_bipush rfl rfl ?_
                refine q_icge rfl rfl (fun c665 => absurd c665 (by decide)) (fun c665 => ?_)
                refine q_aload_n rfl rfl rfl ?_
                refine q_getf rfl rfl (by decide) (FW_46 S hW) rfl ?_
                refine q_bipush rfl rfl ?_
                refine q_iload_n rfl rfl rfl ?_
                refine q_imul rfl rfl (q_tn (z := 0) rfl ?_)
                refine q_iload_n rfl rfl rfl ?_
                refine q_iadd rfl rfl (q_tn (z := 47) rfl ?_)
                refine q_lconst rfl rfl ?_
                refine q_last rfl rfl (by decide) rfl (by decide) ?_
                refine q_icc2 (z := 48) rfl rfl rfl rfl rfl ?_
                refine q_goto rfl ?_
                refine q_iload_n rfl rfl rfl ?_
                refine q_bipush rfl rfl ?_
                refine q_icge rfl rfl (fun c666 => absurd c666 (by decide)) (fun c666 => ?_)
                refine q_aload_n rfl rfl rfl ?_
                refine q_getf rfl rfl (by decide) (FW_46 S hW) rfl ?_
                refine q_bipush rfl rfl ?_
                refine q_iload_n rfl rfl rfl ?_
                refine q_imul rfl rfl (q_tn (z := 0) rfl ?_)
                refine q_iload_n rfl rfl rfl ?_
                refine q_iadd rfl rfl (q_tn (z := 48) rfl ?_)
                refine q_lconst rfl rfl ?_
                refine q_last rfl rfl (by decide) rfl (by decide) ?_
                refine q_icc2 (z := 49) rfl rfl rfl rfl rfl ?_
                refine q_goto rfl ?_
                refine q_iload_n rfl rfl rfl ?_
                refine q_bipush rfl rfl ?_
                refine q_icge rfl rfl (fun c667 => absurd c667 (by decide)) (fun c667 => ?_)
                refine q_aload_n rfl rfl rfl ?_
                refine q_getf rfl rfl (by decide) (FW_46 S hW) rfl ?_
                refine q_bipush rfl rfl ?_
                refine q_iload_n rfl rfl rfl ?_
                refine q_imul rfl rfl (q_tn (z := 0) rfl ?_)
                refine q_iload_n rfl rfl rfl ?_
                refine q_iadd rfl rfl (q_tn (z := 49) rfl ?_)
                refine q_lconst rfl rfl ?_
                refine q_last rfl rfl (by decide) rfl (by decide) ?_
                refine q_icc2 (z := 50) rfl rfl rfl rfl rfl ?_
                refine q_goto rfl ?_
                refine q_iload_n rfl rfl rfl ?_
                refine q_bipush rfl rfl ?_
                refine q_icge rfl rfl (fun c668 => absurd c668 (by decide)) (fun c668 => ?_)
                refine q_aload_n rfl rfl rfl ?_
                refine q_getf rfl rfl (by decide) (FW_46 S hW) rfl ?_
                refine q_bipush rfl rfl ?_
                refine q_iload_n rfl rfl rfl ?_
                refine q_imul rfl rfl (q_tn (z := 0) rfl ?_)
                refine q_iload_n rfl rfl rfl ?_
                refine q_iadd rfl rfl (q_tn (z := 50) rfl ?_)
                refine q_lconst rfl rfl ?_
                refine q_last rfl rfl (by decide) rfl (by decide) ?_
                refine q_icc2 (z := 51) rfl rfl rfl rfl rfl ?_
                refine q_goto rfl ?_
                refine q_iload_n rfl rfl rfl ?_
                refine q_bipush rfl rfl ?_
                refine q_icge rfl rfl (fun c669 => absurd c669 (by decide)) (fun c669 => ?_)
                refine q_aload_n rfl rfl rfl ?_
                refine q_getf rfl rfl (by decide) (FW_46 S hW) rfl ?_
                refine q_bipush rfl rfl ?_
                refine q_iload_n rfl rfl rfl ?_
                refine q_imul rfl rfl (q_tn (z := 0) rfl ?_)
                refine q_iload_n rfl rfl rfl ?_
                refine q_iadd rfl rfl (q_tn (z := 51) rfl ?_)
                refine q_lconst rfl rfl ?_
                refine q_last rfl rfl (by decide) rfl (by decide) ?_
                refine q_icc2 (z := 52) rfl rfl rfl rfl rfl ?_
                refine q_goto rfl ?_
                refine q_iload_n rfl rfl rfl ?_
                refine q_bipush rfl rfl ?_
                refine q_icge rfl rfl (fun c670 => absurd c670 (by decide)) (fun c670 => ?_)
                refine q_aload_n rfl rfl rfl ?_
                refine q_getf rfl rfl (by decide) (FW_46 S hW) rfl ?_
                refine q_bipush rfl rfl ?_
                refine q_iload_n rfl rfl rfl ?_
                refine q_imul rfl rfl (q_tn (z := 0) rfl ?_)
                refine q_iload_n rfl rfl rfl ?_
                refine q_iadd rfl rfl (q_tn (z := 52) rfl ?_)
                refine q_lconst rfl rfl ?_
                refine q_last rfl rfl (by decide) rfl (by decide) ?_
                refine q_icc2 (z := 53) rfl rfl rfl rfl rfl ?_
                refine q_goto rfl ?_
                refine q_iload_n rfl rfl rfl ?_
                refine q_bipush rfl rfl ?_
                refine q_icge rfl rfl (fun c671 => absurd c671 (by decide)) (fun c671 => ?_)
                refine q_aload_n rfl rfl rfl ?_
                refine q_getf rfl rfl (by decide) (FW_46 S hW) rfl ?_
                refine q_bipush rfl rfl ?_
                refine q_iload_n rfl rfl rfl ?_
                refine q_imul rfl rfl (q_tn (z := 0) rfl ?_)
                refine q_iload_n rfl rfl rfl ?_
                refine q_iadd rfl rfl (q_tn (z := 53) rfl ?_)
                refine q_lconst rfl rfl ?_
                refine q_last rfl rfl (by decide) rfl (by decide) ?_
                refine q_icc2 (z := 54) rfl rfl rfl rfl rfl ?_
                refine q_goto rfl ?_
                refine q_iload_n rfl rfl rfl ?_
                refine q_bipush rfl rfl ?_
                refine q_icge rfl rfl (fun c672 => absurd c672 (by decide)) (fun c672 => ?_)
                refine q_aload_n rfl rfl rfl ?_
                refine q_getf rfl rfl (by decide) (FW_46 S hW) rfl ?_
                refine q_bipush rfl rfl ?_
                refine q_iload_n rfl rfl rfl ?_
                refine q_imul rfl rfl (q_tn (z := 0) rfl ?_)
                refine q_iload_n rfl rfl rfl ?_
                refine q_iadd rfl rfl (q_tn (z := 54) rfl ?_)
                refine q_lconst rfl rfl ?_
                refine q_last rfl rfl (by decide) rfl (by decide) ?_
                refine q_icc2 (z := 55) rfl rfl rfl rfl rfl ?_
                refine q_goto rfl ?_
                refine q_iload_n rfl rfl rfl ?_
                refine q_bipush rfl rfl ?_
                refine q_icge rfl rfl (fun c673 => absurd c673 (by decide)) (fun c673 => ?_)
                refine q_aload_n rfl rfl rfl ?_
                refine q_getf rfl rfl (by decide) (FW_46 S hW) rfl ?_
                refine q_bipush rfl rfl ?_
                refine q_iload_n rfl rfl rfl ?_
                refine q_imul rfl rfl (q_tn (z := 0) rfl ?_)
                refine q_iload_n rfl rfl rfl ?_
                refine q_iadd rfl rfl (q_tn (z := 55) rfl ?_)
                refine q_lconst rfl rfl ?_
                refine q_last rfl rfl (by decide) rfl (by decide) ?_
                refine q_icc2 (z := 56) rfl rfl rfl rfl rfl ?_
                refine q_goto rfl ?_
                refine q_iload_n rfl rfl rfl ?_
                refine q_bipush rfl rfl ?_
                refine q_icge rfl rfl (fun c674 => absurd c674 (by decide)) (fun c674 => ?_)
                refine q_aload_n rfl rfl rfl ?_
                refine q_getf rfl rfl (by decide) (FW_46 S hW) rfl ?_
                refine q_bipush rfl rfl ?_
                refine q_iload_n rfl rfl rfl ?_
                refine q_imul rfl rfl (q_tn (z := 0) rfl ?_)
                refine q_iload_n rfl rfl rfl ?_
                refine q_iadd rfl rfl (q_tn (z := 56) rfl ?_)
                refine q_lconst rfl rfl ?_
                refine q_last rfl rfl (by decide) rfl (by decide) ?_
                refine q_icc2 (z := 57) rfl rfl rfl rfl rfl ?_
                refine q_goto rfl ?_
                refine q_iload_n rfl rfl rfl ?_
                refine q_bipush rfl rfl ?_
                refine q_icge rfl rfl (fun c675 => absurd c675 (by decide)) (fun c675 => ?_)
                refine q_aload_n rfl rfl rfl ?_
                refine q_getf rfl rfl (by decide) (FW_46 S hW) rfl ?_
                refine q_bipush rfl rfl ?_
                refine q_iload_n rfl rfl rfl ?_
                refine q_imul rfl rfl (q_tn (z := 0) rfl ?_)
                refine q_iload_n rfl rfl rfl ?_
                refine q_iadd rfl rfl (q_tn (z := 57) rfl ?_)
                refine q_lconst rfl rfl ?_
                refine q_last rfl rfl (by decide) rfl (by decide) ?_
                refine q_icc2 (z := 58) rfl rfl rfl rfl rfl ?_
                refine q_goto rfl ?_
                refine q_iload_n rfl rfl rfl ?_
                refine q_bipush rfl rfl ?_
                refine q_icge rfl rfl (fun c676 => absurd c676 (by decide)) (fun c676 => ?_)
                refine q_aload_n rfl rfl rfl ?_
                refine q_getf rfl rfl (by decide) (FW_46 S hW) rfl ?_
                refine q_bipush rfl rfl ?_
                refine q_iload_n rfl rfl rfl ?_
                refine q_imul rfl rfl (q_tn (z := 0) rfl ?_)
                refine q_iload_n rfl rfl rfl ?_
                refine q_iadd rfl rfl (q_tn (z := 58) rfl ?_)
                refine q_lconst rfl rfl ?_
                refine q_last rfl rfl (by decide) rfl (by decide) ?_
                refine q_icc2 (z := 59) rfl rfl rfl rfl rfl ?_
                refine q_goto rfl ?_
                refine q_iload_n rfl rfl rfl ?_
                refine q_bipush rfl rfl ?_
                refine q_icge rfl rfl (fun c677 => absurd c677 (by decide)) (fun c677 => ?_)
                refine q_aload_n rfl rfl rfl ?_
                refine q_getf rfl rfl (by decide) (FW_46 S hW) rfl ?_
                refine q_bipush rfl rfl ?_
                refine q_iload_n rfl rfl rfl ?_
                refine q_imul rfl rfl (q_tn (z := 0) rfl ?_)
                refine q_iload_n rfl rfl rfl ?_
                refine q_iadd rfl rfl (q_tn (z := 59) rfl ?_)
                refine q_lconst rfl rfl ?_
                refine q_last rfl rfl (by decide) rfl (by decide) ?_
                refine q_icc2 (z := 60) rfl rfl rfl rfl rfl ?_
                refine q_goto rfl ?_
                refine q_iload_n rfl rfl rfl ?_
                refine q_bipush rfl rfl ?_
                refine q_icge rfl rfl (fun c678 => ?_) (fun c678 => absurd (by decide) c678)
                refine q_ret rfl rfl ?_
                refine ⟨rfl, ?_⟩
                refine q_iconst rfl rfl ?_
                refine q_iret rfl rfl trivial ?_
                refine ⟨_, rfl, ?_⟩
                refine q_iceq rfl rfl (fun c679 => ?_) (fun c679 => absurd (by decide) c679)
                refine q_icc4 (z := 6) rfl rfl rfl rfl rfl ?_
                refine q_goto rfl ?_
                refine q_iload rfl rfl rfl ?_
                refine q_aload_nF rfl rfl rfl ?_
                refine q_alenX (x := 6) rfl rfl rfl ?_
                refine q_bipush rfl rfl ?_
                refine q_isub rfl rfl (q_tn (z := 0) rfl ?_)
                refine q_icgt rfl rfl (fun c680 => ?_) (fun c680 => absurd (by decide) c680)
                refine q_iconst rfl rfl ?_
                refine q_iret rfl rfl rfl ?_
                exact hK _ _
              · refine q_aast rfl rfl (by decide) (by decide) (FW_43 S hW) rfl rfl (by decide) ?_
                refine q_iconst rfl rfl ?_
                refine q_iret rfl rfl trivial ?_
                refine ⟨_, rfl, ?_⟩
                refine q_aload_n rfl rfl rfl ?_
                refine q_aload_nF rfl rfl rfl ?_
                refine q_iload rfl rfl rfl ?_
                refine q_iconst rfl rfl ?_
                refine q_iadd rfl rfl (q_tn (z := 1) rfl ?_)
                refine q_ialdX (x := 1) rfl rfl rfl hx1 ?_
                refine q_aload_nF rfl rfl rfl ?_
                refine q_iload rfl rfl rfl ?_
                refine q_iconst rfl rfl ?_
                refine q_iadd rfl rfl (q_tn (z := 2) rfl ?_)
                refine q_ialdX (x := 4) rfl rfl rfl hx2 ?_
                refine q_aload_nF rfl rfl rfl ?_
                refine q_iload rfl rfl rfl ?_
                refine q_iconst rfl rfl ?_
                refine q_iadd rfl rfl (q_tn (z := 3) rfl ?_)
                refine q_ialdX (x := x3) rfl rfl rfl hx3 ?_
                refine q_nV3 rfl rfl (Or.inl rfl) rfl rfl rfl (by decide) (FW_46 S hW) ⟨rfl, rfl⟩ rfl ?_
                change PQ _ _ _ mm_X12_make 0 [.ref 46, .int 1, .int 4, .int x3] [] _ _ 0 0 _
                refine q_aload_n rfl rfl rfl ?_
                refine q_iload_n rfl rfl rfl ?_
                refine q_nV1 rfl rfl (Or.inl rfl) rfl rfl rfl (by decide) (FW_46 S hW) ⟨rfl, rfl⟩ rfl ?_
                change PQ _ _ _ mm_X12_isShelf 0 [.ref 46, .int 1] [] _ _ 0 0 _
                refine q_aload_n rfl rfl rfl ?_
                refine q_iload_n rfl rfl rfl ?_
                refine q_iconst rfl rfl ?_
                refine q_bipush rfl rfl ?_
                refine q_nV3 rfl rfl (Or.inl rfl) rfl rfl rfl (by decide) (FW_46 S hW) ⟨rfl, rfl⟩ rfl ?_
                change PQ _ _ _ mm_X12_in 0 [.ref 46, .int 1, .int 0, .int 7] [] _ _ 0 0 _
                refine q_iload_n rfl rfl rfl ?_
                refine q_iload_n rfl rfl rfl ?_
                refine q_iclt rfl rfl (fun c681 => absurd c681 (by decide)) (fun c681 => ?_)
                refine q_iload_n rfl rfl rfl ?_
                refine q_iload_n rfl rfl rfl ?_
                refine q_icgt rfl rfl (fun c682 => absurd c682 (by decide)) (fun c682 => ?_)
                refine q_iconst rfl rfl ?_
                refine q_goto rfl ?_
                refine q_iret rfl rfl rfl ?_
                refine ⟨_, rfl, ?_⟩
                refine q_iret rfl rfl rfl ?_
                refine ⟨_, rfl, ?_⟩
                refine q_ifeq rfl rfl (fun c683 => absurd c683 (by decide)) (fun c683 => ?_)
                refine q_aload_n rfl rfl rfl ?_
                refine q_iload_n rfl rfl rfl ?_
                refine q_iconst rfl rfl ?_
                refine q_iconst rfl rfl ?_
                refine q_nV3 rfl rfl (Or.inl rfl) rfl rfl rfl (by decide) (FW_46 S hW) ⟨rfl, rfl⟩ rfl ?_
                change PQ _ _ _ mm_X12_in 0 [.ref 46, .int 4, .int 3, .int 4] [] _ _ 0 0 _
                refine q_iload_n rfl rfl rfl ?_
                refine q_iload_n rfl rfl rfl ?_
                refine q_iclt rfl rfl (fun c684 => absurd c684 (by decide)) (fun c684 => ?_)
                refine q_iload_n rfl rfl rfl ?_
                refine q_iload_n rfl rfl rfl ?_
                refine q_icgt rfl rfl (fun c685 => absurd c685 (by decide)) (fun c685 => ?_)
                refine q_iconst rfl rfl ?_
                refine q_goto rfl ?_
                refine q_iret rfl rfl rfl ?_
                refine ⟨_, rfl, ?_⟩
                refine q_ifeq rfl rfl (fun c686 => absurd c686 (by decide)) (fun c686 => ?_)
                refine q_iload_n rfl rfl rfl ?_
                refine q_bipush rfl rfl ?_
                refine q_icle rfl rfl (fun c687 => ?_) (fun c687 => absurd (i_le_t c607 rfl) c687)
                refine q_iload_n rfl rfl rfl ?_
                refine q_ifge rfl rfl (fun c688 => ?_) (fun c688 => absurd (i_ge_t c608 rfl) c688)
                refine q_aload_n rfl rfl rfl ?_
                refine q_getf rfl rfl (by decide) (FW_46 S hW) rfl ?_
                refine q_iload_n rfl rfl rfl ?_
                refine q_iload_n rfl rfl rfl ?_
                refine q_iast rfl rfl (by decide) (FW_75 S hW) (by decide) ?_
                refine q_aload_n rfl rfl rfl ?_
                refine q_getf rfl rfl (by decide) (FW_46 S hW) rfl ?_
                refine q_iload_n rfl rfl rfl ?_
                refine q_iload_n rfl rfl rfl ?_
                refine q_iast rfl rfl (by decide) (FW_78 S hW) (by decide) ?_
                refine q_aload_n rfl rfl rfl ?_
                refine q_iload_n rfl rfl rfl ?_
                refine q_nV1v rfl rfl (Or.inl rfl) rfl rfl rfl (by decide) (FW_46 S hW) ⟨rfl, rfl⟩ rfl ?_
                change PQ _ _ _ mm_X12_clear 0 [.ref 46, .int 1, pm_un] [] _ _ 0 0 _
                refine q_iconst rfl rfl ?_
                refine q_ist2n rfl rfl rfl rfl ?_
                refine q_iload_n rfl rfl rfl ?_
                refine q_bipush rfl rfl ?_
                refine q_icge rfl rfl (fun c689 => absurd c689 (by decide)) (fun c689 => ?_)
                refine q_aload_n rfl rfl rfl ?_
                refine q_getf rfl rfl (by decide) (FW_46 S hW) rfl ?_
                refine q_bipush rfl rfl ?_
                refine q_iload_n rfl rfl rfl ?_
                refine q_imul rfl rfl (q_tn (z := 60) rfl ?_)
                refine q_iload_n rfl rfl rfl ?_
                refine q_iadd rfl rfl (q_tn (z := 60) rfl ?_)
                refine q_lconst rfl rfl ?_
                refine q_last rfl rfl (by decide) (FW_79 S hW) (by decide) ?_
                refine q_icc2 (z := 1) rfl rfl rfl rfl rfl ?_
                refine q_goto rfl ?_
                refine q_iload_n rfl rfl rfl ?_
                refine q_bipush rfl rfl ?_
                refine q_icge rfl rfl (fun c690 => absurd c690 (by decide)) (fun c690 => ?_)
                refine q_aload_n rfl rfl rfl ?_
                refine q_getf rfl rfl (by decide) (FW_46 S hW) rfl ?_
                refine q_bipush rfl rfl ?_
                refine q_iload_n rfl rfl rfl ?_
                refine q_imul rfl rfl (q_tn (z := 60) rfl ?_)
                refine q_iload_n rfl rfl rfl ?_
                refine q_iadd rfl rfl (q_tn (z := 61) rfl ?_)
                refine q_lconst rfl rfl ?_
                refine q_last rfl rfl (by decide) rfl (by decide) ?_
                refine q_icc2 (z := 2) rfl rfl rfl rfl rfl ?_
                refine q_goto rfl ?_
                refine q_iload_n rfl rfl rfl ?_
                refine q_bipush rfl rfl ?_
                refine q_icge rfl rfl (fun c691 => absurd c691 (by decide)) (fun c691 => ?_)
                refine q_aload_n rfl rfl rfl ?_
                refine q_getf rfl rfl (by decide) (FW_46 S hW) rfl ?_
                refine q_bipush rfl rfl ?_
                refine q_iload_n rfl rfl rfl ?_
                refine q_imul rfl rfl (q_tn (z := 60) rfl ?_)
                refine q_iload_n rfl rfl rfl ?_
                refine q_iadd rfl rfl (q_tn (z := 62) rfl ?_)
                refine q_lconst rfl rfl ?_
                refine q_last rfl rfl (by decide) rfl (by decide) ?_
                refine q_icc2 (z := 3) rfl rfl rfl rfl rfl ?_
                refine q_goto rfl ?_
                refine q_iload_n rfl rfl rfl ?_
                refine q_bipush rfl rfl ?_
                refine q_icge rfl rfl (fun c692 => absurd c692 (by decide)) (fun c692 => ?_)
                refine q_aload_n rfl rfl rfl ?_
                refine q_getf rfl rfl (by decide) (FW_46 S hW) rfl ?_
                refine q_bipush rfl rfl ?_
                refine q_iload_n rfl rfl rfl ?_
                refine q_imul rfl rfl (q_tn (z := 60) rfl ?_)
                refine q_iload_n rfl rfl rfl ?_
                refine q_iadd rfl rfl (q_tn (z := 63) rfl ?_)
                refine q_lconst rfl rfl ?_
                refine q_last rfl rfl (by decide) rfl (by decide) ?_
                refine q_icc2 (z := 4) rfl rfl rfl rfl rfl ?_
                refine q_goto rfl ?_
                refine q_iload_n rfl rfl rfl ?_
                refine q_bipush rfl rfl ?_
                refine q_icge rfl rfl (fun c693 => absurd c693 (by decide)) (fun c693 => ?_)
                refine q_aload_n rfl rfl rfl ?_
                refine q_getf rfl rfl (by decide) (FW_46 S hW) rfl ?_
                refine q_bipush rfl rfl ?_
                refine q_iload_n rfl rfl rfl ?_
                refine q_imul rfl rfl (q_tn (z := 60) rfl ?_)
                refine q_iload_n rfl rfl rfl ?_
                refine q_iadd rfl rfl (q_tn (z := 64) rfl ?_)
                refine q_lconst rfl rfl ?_
                refine q_last rfl rfl (by decide) rfl (by decide) ?_
                refine q_icc2 (z := 5) rfl rfl rfl rfl rfl ?_
                refine q_goto rfl ?_
                refine q_iload_n rfl rfl rfl ?_
                refine q_bipush rfl rfl ?_
                refine q_icge rfl rfl (fun c694 => absurd c694 (by decide)) (fun c694 => ?_)
                refine q_aload_n rfl rfl rfl ?_
                refine q_getf rfl rfl (by decide) (FW_46 S hW) rfl ?_
                refine q_bipush rfl rfl ?_
                refine q_iload_n rfl rfl rfl ?_
                refine q_imul rfl rfl (q_tn (z := 60) rfl ?_)
                refine q_iload_n rfl rfl rfl ?_
                refine q_iadd rfl rfl (q_tn (z := 65) rfl ?_)
                refine q_lconst rfl rfl ?_
                refine q_last rfl rfl (by decide) rfl (by decide) ?_
                refine q_icc2 (z := 6) rfl rfl rfl rfl rfl ?_
                refine q_goto rfl ?_
                refine q_iload_n rfl rfl rfl ?_
                refine q_bipush rfl rfl ?_
                refine q_icge rfl rfl (fun c695 => absurd c695 (by decide)) (fun c695 => ?_)
                refine q_aload_n rfl rfl rfl ?_
                refine q_getf rfl rfl (by decide) (FW_46 S hW) rfl ?_
                refine q_bipush rfl rfl ?_
                refine q_iload_n rfl rfl rfl ?_
                refine q_imul rfl rfl (q_tn (z := 60) rfl ?_)
                refine q_iload_n rfl rfl rfl ?_
                refine q_iadd rfl rfl (q_tn (z := 66) rfl ?_)
                refine q_lconst rfl rfl ?_
                refine q_last rfl rfl (by decide) rfl (by decide) ?_
                refine q_icc2 (z := 7) rfl rfl rfl rfl rfl ?_
                refine q_goto rfl ?_
                refine q_iload_n rfl rfl rfl ?_
                refine q_bipush rfl rfl ?_
                refine q_icge rfl rfl (fun c696 => absurd c696 (by decide)) (fun c696 => ?_)
                refine q_aload_n rfl rfl rfl ?_
                refine q_getf rfl rfl (by decide) (FW_46 S hW) rfl ?_
                refine q_bipush rfl rfl ?_
                refine q_iload_n rfl rfl rfl ?_
                refine q_imul rfl rfl (q_tn (z := 60) rfl ?_)
                refine q_iload_n rfl rfl rfl ?_
                refine q_iadd rfl rfl (q_tn (z := 67) rfl ?_)
                refine q_lconst rfl rfl ?_
                refine q_last rfl rfl (by decide) rfl (by decide) ?_
                refine q_icc2 (z := 8) rfl rfl rfl rfl rfl ?_
                refine q_goto rfl ?_
                refine q_iload_n rfl rfl rfl ?_
                refine q_bipush rfl rfl ?_
                refine q_icge rfl rfl (fun c697 => absurd c697 (by decide)) (fun c697 => ?_)
                refine q_aload_n rfl rfl rfl ?_
                refine q_getf rfl rfl (by decide) (FW_46 S hW) rfl ?_
                refine q_bipush rfl rfl ?_
                refine q_iload_n rfl rfl rfl ?_
                refine q_imul rfl rfl (q_tn (z := 60) rfl ?_)
                refine q_iload_n rfl rfl rfl ?_
                refine q_iadd rfl rfl (q_tn (z := 68) rfl ?_)
                refine q_lconst rfl rfl ?_
                refine q_last rfl rfl (by decide) rfl (by decide) ?_
                refine q_icc2 (z := 9) rfl rfl rfl rfl rfl ?_
                refine q_goto rfl ?_
                refine q_iload_n rfl rfl rfl ?_
                refine q_bipush rfl rfl ?_
                refine q_icge rfl rfl (fun c698 => absurd c698 (by decide)) (fun c698 => ?_)
                refine q_aload_n rfl rfl rfl ?_
                refine q_getf rfl rfl (by decide) (FW_46 S hW) rfl ?_
                refine q_bipush rfl rfl ?_
                refine q_iload_n rfl rfl rfl ?_
                refine q_imul rfl rfl (q_tn (z := 60) rfl ?_)
                refine q_iload_n rfl rfl rfl ?_
                refine q_iadd rfl rfl (q_tn (z := 69) rfl ?_)
                refine q_lconst rfl rfl ?_
                refine q_last rfl rfl (by decide) rfl (by decide) ?_
                refine q_icc2 (z := 10) rfl rfl rfl rfl rfl ?_
                refine q_goto rfl ?_
                refine q_iload_n rfl rfl rfl ?_
                refine q_bipush rfl rfl ?_
                refine q_icge rfl rfl (fun c699 => absurd c699 (by decide)) (fun c699 => ?_)
                refine q_aload_n rfl rfl rfl ?_
                refine q_getf rfl rfl (by decide) (FW_46 S hW) rfl ?_
                refine q_bipush rfl rfl ?_
                refine q_iload_n rfl rfl rfl ?_
                refine q_imul rfl rfl (q_tn (z := 60) rfl ?_)
                refine q_iload_n rfl rfl rfl ?_
                refine q_iadd rfl rfl (q_tn (z := 70) rfl ?_)
                refine q_lconst rfl rfl ?_
                refine q_last rfl rfl (by decide) rfl (by decide) ?_
                refine q_icc2 (z := 11) rfl rfl rfl rfl rfl ?_
                refine q_goto rfl ?_
                refine q_iload_n rfl rfl rfl ?_
                refine q_bipush rfl rfl ?_
                refine q_icge rfl rfl (fun c700 => absurd c700 (by decide)) (fun c700 => ?_)
                refine q_aload_n rfl rfl rfl ?_
                refine q_getf rfl rfl (by decide) (FW_46 S hW) rfl ?_
                refine q_bipush rfl rfl ?_
                refine q_iload_n rfl rfl rfl ?_
                refine q_imul rfl rfl (q_tn (z := 60) rfl ?_)
                refine q_iload_n rfl rfl rfl ?_
                refine q_iadd rfl rfl (q_tn (z := 71) rfl ?_)
                refine q_lconst rfl rfl ?_
                refine q_last rfl rfl (by decide) rfl (by decide) ?_
                refine q_icc2 (z := 12) rfl rfl rfl rfl rfl ?_
                refine q_goto rfl ?_
                refine q_iload_n rfl rfl rfl ?_
                refine q_bipush rfl rfl ?_
                refine q_icge rfl rfl (fun c701 => absurd c701 (by decide)) (fun c701 => ?_)
                refine q_aload_n rfl rfl rfl ?_
                refine q_getf rfl rfl (by decide) (FW_46 S hW) rfl ?_
                refine q_bipush rfl rfl ?_
                refine q_iload_n rfl rfl rfl ?_
                refine q_imul rfl rfl (q_tn (z := 60) rfl ?_)
                refine q_iload_n rfl rfl rfl ?_
                refine q_iadd rfl rfl (q_tn (z := 72) rfl ?_)
                refine q_lconst rfl rfl ?_
                refine q_last rfl rfl (by decide) rfl (by decide) ?_
                refine q_icc2 (z := 13) rfl rfl rfl rfl rfl ?_
                refine q_goto rfl ?_
                refine q_iload_n rfl rfl rfl ?_
                refine q_bipush rfl rfl ?_
                refine q_icge rfl rfl (fun c702 => absurd c702 (by decide)) (fun c702 => ?_)
                refine q_aload_n rfl rfl rfl ?_
                refine q_getf rfl rfl (by decide) (FW_46 S hW) rfl ?_
                refine q_bipush rfl rfl ?_
                refine q_iload_n rfl rfl rfl ?_
                refine q_imul rfl rfl (q_tn (z := 60) rfl ?_)
                refine q_iload_n rfl rfl rfl ?_
                refine q_iadd rfl rfl (q_tn (z := 73) rfl ?_)
                refine q_lconst rfl rfl ?_
                refine q_last rfl rfl (by decide) rfl (by decide) ?_
                refine q_icc2 (z := 14) rfl rfl rfl rfl rfl ?_
                refine q_goto rfl ?_
                refine q_iload_n rfl rfl rfl ?_
                refine q_bipush rfl rfl ?_
                refine q_icge rfl rfl (fun c703 => absurd c703 (by decide)) (fun c703 => ?_)
                refine q_aload_n rfl rfl rfl ?_
                refine q_getf rfl rfl (by decide) (FW_46 S hW) rfl ?_
                refine q_bipush rfl rfl ?_
                refine q_iload_n rfl rfl rfl ?_
                refine q_imul rfl rfl (q_tn (z := 60) rfl ?_)
                refine q_iload_n rfl rfl rfl ?_
                refine q_iadd rfl rfl (q_tn (z := 74) rfl ?_)
                refine q_lconst rfl rfl ?_
                refine q_last rfl rfl (by decide) rfl (by decide) ?_
                refine q_icc2 (z := 15) rfl rfl rfl rfl rfl ?_
                refine q_goto rfl ?_
                refine q_iload_n rfl rfl rfl ?_
                refine q_bipush rfl rfl ?_
                refine q_icge rfl rfl (fun c704 => absurd c704 (by decide)) (fun c704 => ?_)
                refine q_aload_n rfl rfl rfl ?_
                refine q_getf rfl rfl (by decide) (FW_46 S hW) rfl ?_
                refine q_bipush rfl rfl ?_
                refine q_iload_n rfl rfl rfl ?_
                refine q_imul rfl rfl (q_tn (z := 60) rfl ?_)
                refine q_iload_n rfl rfl rfl ?_
                refine q_iadd rfl rfl (q_tn (z := 75) rfl ?_)
                refine q_lconst rfl rfl ?_
                refine q_last rfl rfl (by decide) rfl (by decide) ?_
                refine q_icc2 (z := 16) rfl rfl rfl rfl rfl ?_
                refine q_goto rfl ?_
                refine q_iload_n rfl rfl rfl ?_
                refine q_bipush rfl rfl ?_
                refine q_icge rfl rfl (fun c705 => absurd c705 (by decide)) (fun c705 => ?_)
                refine q_aload_n rfl rfl rfl ?_
                refine q_getf rfl rfl (by decide) (FW_46 S hW) rfl ?_
                refine q_bipush rfl rfl ?_
                refine q_iload_n rfl rfl rfl ?_
                refine q_imul rfl rfl (q_tn (z := 60) rfl ?_)
                refine q_iload_n rfl rfl rfl ?_
                refine q_iadd rfl rfl (q_tn (z := 76) rfl ?_)
                refine q_lconst rfl rfl ?_
                refine q_last rfl rfl (by decide) rfl (by decide) ?_
                refine q_icc2 (z := 17) rfl rfl rfl rfl rfl ?_
                refine q_goto rfl ?_
                refine q_iload_n rfl rfl rfl ?_
                refine q_bipush rfl rfl ?_
                refine q_icge rfl rfl (fun c706 => absurd c706 (by decide)) (fun c706 => ?_)
                refine q_aload_n rfl rfl rfl ?_
                refine q_getf rfl rfl (by decide) (FW_46 S hW) rfl ?_
                refine q_bipush rfl rfl ?_
                refine q_iload_n rfl rfl rfl ?_
                refine q_imul rfl rfl (q_tn (z := 60) rfl ?_)
                refine q_iload_n rfl rfl rfl ?_
                refine q_iadd rfl rfl (q_tn (z := 77) rfl ?_)
                refine q_lconst rfl rfl ?_
                refine q_last rfl rfl (by decide) rfl (by decide) ?_
                refine q_icc2 (z := 18) rfl rfl rfl rfl rfl ?_
                refine q_goto rfl ?_
                refine q_iload_n rfl rfl rfl ?_
                refine q_bipush rfl rfl ?_
                refine q_icge rfl rfl (fun c707 => absurd c707 (by decide)) (fun c707 => ?_)
                refine q_aload_n rfl rfl rfl ?_
                refine q_getf rfl rfl (by decide) (FW_46 S hW) rfl ?_
                refine q_bipush rfl rfl ?_
                refine q_iload_n rfl rfl rfl ?_
                refine q_imul rfl rfl (q_tn (z := 60) rfl ?_)
                refine q_iload_n rfl rfl rfl ?_
                refine q_iadd rfl rfl (q_tn (z := 78) rfl ?_)
                refine q_lconst rfl rfl ?_
                refine q_last rfl rfl (by decide) rfl (by decide) ?_
                refine q_icc2 (z := 19) rfl rfl rfl rfl rfl ?_
                refine q_goto rfl ?_
                refine q_iload_n rfl rfl rfl ?_
                refine q_bipush rfl rfl ?_
                refine q_icge rfl rfl (fun c708 => absurd c708 (by decide)) (fun c708 => ?_)
                refine q_aload_n rfl rfl rfl ?_
                refine q_getf rfl rfl (by decide) (FW_46 S hW) rfl ?_
                refine q_bipush rfl rfl ?_
                refine q_iload_n rfl rfl rfl ?_
                refine q_imul rfl rfl (q_tn (z := 60) rfl ?_)
                refine q_iload_n rfl rfl rfl ?_
                refine q_iadd rfl rfl (q_tn (z := 79) rfl ?_)
                refine q_lconst rfl rfl ?_
                refine q_last rfl rfl (by decide) rfl (by decide) ?_
                refine q_icc2 (z := 20) rfl rfl rfl rfl rfl ?_
                refine q_goto rfl ?_
                refine q_iload_n rfl rfl rfl ?_
                refine q_bipush rfl rfl ?_
                refine q_icge rfl rfl (fun c709 => absurd c709 (by decide)) (fun c709 => ?_)
                refine q_aload_n rfl rfl rfl ?_
                refine q_getf rfl rfl (by decide) (FW_46 S hW) rfl ?_
                refine q_bipush rfl rfl ?_
                refine q_iload_n rfl rfl rfl ?_
                refine q_imul rfl rfl (q_tn (z := 60) rfl ?_)
                refine q_iload_n rfl rfl rfl ?_
                refine q_iadd rfl rfl (q_tn (z := 80) rfl ?_)
                refine q_lconst rfl rfl ?_
                refine q_last rfl rfl (by decide) rfl (by decide) ?_
                refine q_icc2 (z := 21) rfl rfl rfl rfl rfl ?_
                refine q_goto rfl ?_
                refine q_iload_n rfl rfl rfl ?_
                refine q_bipush rfl rfl ?_
                refine q_icge rfl rfl (fun c710 => absurd c710 (by decide)) (fun c710 => ?_)
                refine q_aload_n rfl rfl rfl ?_
                refine q_getf rfl rfl (by decide) (FW_46 S hW) rfl ?_
                refine q_bipush rfl rfl ?_
                refine q_iload_n rfl rfl rfl ?_
                refine q_imul rfl rfl (q_tn (z := 60) rfl ?_)
                refine q_iload_n rfl rfl rfl ?_
                refine q_iadd rfl rfl (q_tn (z := 81) rfl ?_)
                refine q_lconst rfl rfl ?_
                refine q_last rfl rfl (by decide) rfl (by decide) ?_
                refine q_icc2 (z := 22) rfl rfl rfl rfl rfl ?_
                refine q_goto rfl ?_
                refine q_iload_n rfl rfl rfl ?_
                refine q_bipush rfl rfl ?_
                refine q_icge rfl rfl (fun c711 => absurd c711 (by decide)) (fun c711 => ?_)
                refine q_aload_n rfl rfl rfl ?_
                refine q_getf rfl rfl (by decide) (FW_46 S hW) rfl ?_
                refine q_bipush rfl rfl ?_
                refine q_iload_n rfl rfl rfl ?_
                refine q_imul rfl rfl (q_tn (z := 60) rfl ?_)
                refine q_iload_n rfl rfl rfl ?_
                refine q_iadd rfl rfl (q_tn (z := 82) rfl ?_)
                refine q_lconst rfl rfl ?_
                refine q_last rfl rfl (by decide) rfl (by decide) ?_
                refine q_icc2 (z := 23) rfl rfl rfl rfl rfl ?_
                refine q_goto rfl ?_
                refine q_iload_n rfl rfl rfl ?_
                refine q_bipush rfl rfl ?_
                refine q_icge rfl rfl (fun c712 => absurd c712 (by decide)) (fun c712 => ?_)
                refine q_aload_n rfl rfl rfl ?_
                refine q_getf rfl rfl (by decide) (FW_46 S hW) rfl ?_
                refine q_bipush rfl rfl ?_
                refine q_iload_n rfl rfl rfl ?_
                refine q_imul rfl rfl (q_tn (z := 60) rfl ?_)
                refine q_iload_n rfl rfl rfl ?_
                refine q_iadd rfl rfl (q_tn (z := 83) rfl ?_)
                refine q_lconst rfl rfl ?_
                refine q_last rfl rfl (by decide) rfl (by decide) ?_
                refine q_icc2 (z := 24) rfl rfl rfl rfl rfl ?_
                refine q_goto rfl ?_
                refine q_iload_n rfl rfl rfl ?_
                refine q_bipush rfl rfl ?_
                refine q_icge rfl rfl (fun c713 => absurd c713 (by decide)) (fun c713 => ?_)
                refine q_aload_n rfl rfl rfl ?_
                refine q_getf rfl rfl (by decide) (FW_46 S hW) rfl ?_
                refine q_bipush rfl rfl ?_
                refine q_iload_n rfl rfl rfl ?_
                refine q_imul rfl rfl (q_tn (z := 60) rfl ?_)
                refine q_iload_n rfl rfl rfl ?_
                refine q_iadd rfl rfl (q_tn (z := 84) rfl ?_)
                refine q_lconst rfl rfl ?_
                refine q_last rfl rfl (by decide) rfl (by decide) ?_
                refine q_icc2 (z := 25) rfl rfl rfl rfl rfl ?_
                refine q_goto rfl ?_
                refine q_iload_n rfl rfl rfl ?_
                refine q_bipush rfl rfl ?_
                refine q_icge rfl rfl (fun c714 => absurd c714 (by decide)) (fun c714 => ?_)
                refine q_aload_n rfl rfl rfl ?_
                refine q_getf rfl rfl (by decide) (FW_46 S hW) rfl ?_
                refine q_bipush rfl rfl ?_
                refine q_iload_n rfl rfl rfl ?_
                refine q_imul rfl rfl (q_tn (z := 60) rfl ?_)
                refine q_iload_n rfl rfl rfl ?_
                refine q_iadd rfl rfl (q_tn (z := 85) rfl ?_)
                refine q_lconst rfl rfl ?_
                refine q_last rfl rfl (by decide) rfl (by decide) ?_
                refine q_icc2 (z := 26) rfl rfl rfl rfl rfl ?_
                refine q_goto rfl ?_
                refine q_iload_n rfl rfl rfl ?_
                refine q_bipush rfl rfl ?_
                refine q_icge rfl rfl (fun c715 => absurd c715 (by decide)) (fun c715 => ?_)
                refine q_aload_n rfl rfl rfl ?_
                refine q_getf rfl rfl (by decide) (FW_46 S hW) rfl ?_
                refine q_bipush rfl rfl ?_
                refine q_iload_n rfl rfl rfl ?_
                refine q_imul rfl rfl (q_tn (z := 60) rfl ?_)
                refine q_iload_n rfl rfl rfl ?_
                refine q_iadd rfl rfl (q_tn (z := 86) rfl ?_)
                refine q_lconst rfl rfl ?_
                refine q_last rfl rfl (by decide) rfl (by decide) ?_
                refine q_icc2 (z := 27) rfl rfl rfl rfl rfl ?_
                refine q_goto rfl ?_
                refine q_iload_n rfl rfl rfl ?_
                refine q_bipush rfl rfl ?_
                refine q_icge rfl rfl (fun c716 => absurd c716 (by decide)) (fun c716 => ?_)
                refine q_aload_n rfl rfl rfl ?_
                refine q_getf rfl rfl (by decide) (FW_46 S hW) rfl ?_
                refine q_bipush rfl rfl ?_
                refine q_iload_n rfl rfl rfl ?_
                refine q_imul rfl rfl (q_tn (z := 60) rfl ?_)
                refine q_iload_n rfl rfl rfl ?_
                refine q_iadd rfl rfl (q_tn (z := 87) rfl ?_)
                refine q_lconst rfl rfl ?_
                refine q_last rfl rfl (by decide) rfl (by decide) ?_
                refine q_icc2 (z := 28) rfl rfl rfl rfl rfl ?_
                refine q_goto rfl ?_
                refine q_iload_n rfl rfl rfl ?_
                refine q_bipush rfl rfl ?_
                refine q_icge rfl rfl (fun c717 => absurd c717 (by decide)) (fun c717 => ?_)
                refine q_aload_n rfl rfl rfl ?_
                refine q_getf rfl rfl (by decide) (FW_46 S hW) rfl ?_
                refine q_bipush rfl rfl ?_
                refine q_iload_n rfl rfl rfl ?_
                refine q_imul rfl rfl (q_tn (z := 60) rfl ?_)
                refine q_iload_n rfl rfl rfl ?_
                refine q_iadd rfl rfl (q_tn (z := 88) rfl ?_)
                refine q_lconst rfl rfl ?_
                refine q_last rfl rfl (by decide) rfl (by decide) ?_
                refine q_icc2 (z := 29) rfl rfl rfl rfl rfl ?_
                refine q_goto rfl ?_
                refine q_iload_n rfl rfl rfl ?_
                refine q_bipush rfl rfl ?_
                refine q_icge rfl rfl (fun c718 => absurd c718 (by decide)) (fun c718 => ?_)
                refine q_aload_n rfl rfl rfl ?_
                refine q_getf rfl rfl (by decide) (FW_46 S hW) rfl ?_
                refine q_bipush rfl rfl ?_
                refine q_iload_n rfl rfl rfl ?_
                refine q_imul rfl rfl (q_tn (z := 60) rfl ?_)
                refine q_iload_n rfl rfl rfl ?_
                refine q_iadd rfl rfl (q_tn (z := 89) rfl ?_)
                refine q_lconst rfl rfl ?_
                refine q_last rfl rfl (by decide) rfl (by decide) ?_
                refine q_icc2 (z := 30) rfl rfl rfl rfl rfl ?_
                refine q_goto rfl ?_
                refine q_iload_n rfl rfl rfl ?_
                refine q_bipush rfl rfl ?_
                refine q_icge rfl rfl (fun c719 => absurd c719 (by decide)) (fun c719 => ?_)
                refine q_aload_n rfl rfl rfl ?_
                refine q_getf rfl rfl (by decide) (FW_46 S hW) rfl ?_
                refine q_bipush rfl rfl ?_
                refine q_iload_n rfl rfl rfl ?_
                refine q_imul rfl rfl (q_tn (z := 60) rfl ?_)
                refine q_iload_n rfl rfl rfl ?_
                refine q_iadd rfl rfl (q_tn (z := 90) rfl ?_)
                refine q_lconst rfl rfl ?_
                refine q_last rfl rfl (by decide) rfl (by decide) ?_
                refine q_icc2 (z := 31) rfl rfl rfl rfl rfl ?_
                refine q_goto rfl ?_
                refine q_iload_n rfl rfl rfl ?_
                refine q_bipush rfl rfl ?_
                refine q_icge rfl rfl (fun c720 => absurd c720 (by decide)) (fun c720 => ?_)
                refine q_aload_n rfl rfl rfl ?_
                refine q_getf rfl rfl (by decide) (FW_46 S hW) rfl ?_
                refine q_bipush rfl rfl ?_
                refine q_iload_n rfl rfl rfl ?_
                refine q_imul rfl rfl (q_tn (z := 60) rfl ?_)
                refine q_iload_n rfl rfl rfl ?_
                refine q_iadd rfl rfl (q_tn (z := 91) rfl ?_)
                refine q_lconst rfl rfl ?_
                refine q_last rfl rfl (by decide) rfl (by decide) ?_
                refine q_icc2 (z := 32) rfl rfl rfl rfl rfl ?_
                refine q_goto rfl ?_
                refine q_iload_n rfl rfl rfl ?_
                refine q_bipush rfl rfl ?_
                refine q_icge rfl rfl (fun c721 => absurd c721 (by decide)) (fun c721 => ?_)
                refine q_aload_n rfl rfl rfl ?_
                refine q_getf rfl rfl (by decide) (FW_46 S hW) rfl ?_
                refine q_bipush rfl rfl ?_
                refine q_iload_n rfl rfl rfl ?_
                refine q_imul rfl rfl (q_tn (z := 60) rfl ?_)
                refine q_iload_n rfl rfl rfl ?_
                refine q_iadd rfl rfl (q_tn (z := 92) rfl ?_)
                refine q_lconst rfl rfl ?_
                refine q_last rfl rfl (by decide) rfl (by decide) ?_
                refine q_icc2 (z := 33) rfl rfl rfl rfl rfl ?_
                refine q_goto rfl ?_
                refine q_iload_n rfl rfl rfl ?_
                refine q_bipush rfl rfl ?_
                refine q_icge rfl rfl (fun c722 => absurd c722 (by decide)) (fun c722 => ?_)
                refine q_aload_n rfl rfl rfl ?_
                refine q_getf rfl rfl (by decide) (FW_46 S hW) rfl ?_
                refine q_bipush rfl rfl ?_
                refine q_iload_n rfl rfl rfl ?_
                refine q_imul rfl rfl (q_tn (z := 60) rfl ?_)
                refine q_iload_n rfl rfl rfl ?_
                refine q_iadd rfl rfl (q_tn (z := 93) rfl ?_)
                refine q_lconst rfl rfl ?_
                refine q_last rfl rfl (by decide) rfl (by decide) ?_
                refine q_icc2 (z := 34) rfl rfl rfl rfl rfl ?_
                refine q_goto rfl ?_
                refine q_iload_n rfl rfl rfl ?_
                refine q_bipush rfl rfl ?_
                refine q_icge rfl rfl (fun c723 => absurd c723 (by decide)) (fun c723 => ?_)
                refine q_aload_n rfl rfl rfl ?_
                refine q_getf rfl rfl (by decide) (FW_46 S hW) rfl ?_
                refine q_bipush rfl rfl ?_
                refine q_iload_n rfl rfl rfl ?_
                refine q_imul rfl rfl (q_tn (z := 60) rfl ?_)
                refine q_iload_n rfl rfl rfl ?_
                refine q_iadd rfl rfl (q_tn (z := 94) rfl ?_)
                refine q_lconst rfl rfl ?_
                refine q_last rfl rfl (by decide) rfl (by decide) ?_
                refine q_icc2 (z := 35) rfl rfl rfl rfl rfl ?_
                refine q_goto rfl ?_
                refine q_iload_n rfl rfl rfl ?_
                refine q_bipush rfl rfl ?_
                refine q_icge rfl rfl (fun c724 => absurd c724 (by decide)) (fun c724 => ?_)
                refine q_aload_n rfl rfl rfl ?_
                refine q_getf rfl rfl (by decide) (FW_46 S hW) rfl ?_
                refine q_bipush rfl rfl ?_
                refine q_iload_n rfl rfl rfl ?_
                refine q_imul rfl rfl (q_tn (z := 60) rfl ?_)
                refine q_iload_n rfl rfl rfl ?_
                refine q_iadd rfl rfl (q_tn (z := 95) rfl ?_)
                refine q_lconst rfl rfl ?_
                refine q_last rfl rfl (by decide) rfl (by decide) ?_
                refine q_icc2 (z := 36) rfl rfl rfl rfl rfl ?_
                refine q_goto rfl ?_
                refine q_iload_n rfl rfl rfl ?_
                refine q_bipush rfl rfl ?_
                refine q_icge rfl rfl (fun c725 => absurd c725 (by decide)) (fun c725 => ?_)
                refine q_aload_n rfl rfl rfl ?_
                refine q_getf rfl rfl (by decide) (FW_46 S hW) rfl ?_
                refine q_bipush rfl rfl ?_
                refine q_iload_n rfl rfl rfl ?_
                refine q_imul rfl rfl (q_tn (z := 60) rfl ?_)
                refine q_iload_n rfl rfl rfl ?_
                refine q_iadd rfl rfl (q_tn (z := 96) rfl ?_)
                refine q_lconst rfl rfl ?_
                refine q_last rfl rfl (by decide) rfl (by decide) ?_
                refine q_icc2 (z := 37) rfl rfl rfl rfl rfl ?_
                refine q_goto rfl ?_
                refine q_iload_n rfl rfl rfl ?_
                refine q_bipush rfl rfl ?_
                refine q_icge rfl rfl (fun c726 => absurd c726 (by decide)) (fun c726 => ?_)
                refine q_aload_n rfl rfl rfl ?_
                refine q_getf rfl rfl (by decide) (FW_46 S hW) rfl ?_
                refine q_bipush rfl rfl ?_
                refine q_iload_n rfl rfl rfl ?_
                refine q_imul rfl rfl (q_tn (z := 60) rfl ?_)
                refine q_iload_n rfl rfl rfl ?_
                refine q_iadd rfl rfl (q_tn (z := 97) rfl ?_)
                refine q_lconst rfl rfl ?_
                refine q_last rfl rfl (by decide) rfl (by decide) ?_
                refine q_icc2 (z := 38) rfl rfl rfl rfl rfl ?_
                refine q_goto rfl ?_
                refine q_iload_n rfl rfl rfl ?_
                refine q_bipush rfl rfl ?_
                refine q_icge rfl rfl (fun c727 => absurd c727 (by decide)) (fun c727 => ?_)
                refine q_aload_n rfl rfl rfl ?_
                refine q_getf rfl rfl (by decide) (FW_46 S hW) rfl ?_
                refine q_bipush rfl rfl ?_
                refine q_iload_n rfl rfl rfl ?_
                refine q_imul rfl rfl (q_tn (z := 60) rfl ?_)
                refine q_iload_n rfl rfl rfl ?_
                refine q_iadd rfl rfl (q_tn (z := 98) rfl ?_)
                refine q_lconst rfl rfl ?_
                refine q_last rfl rfl (by decide) rfl (by decide) ?_
                refine q_icc2 (z := 39) rfl rfl rfl rfl rfl ?_
                refine q_goto rfl ?_
                refine q_iload_n rfl rfl rfl ?_
                refine q_bipush rfl rfl ?_
                refine q_icge rfl rfl (fun c728 => absurd c728 (by decide)) (fun c728 => ?_)
                refine q_aload_n rfl rfl rfl ?_
                refine q_getf rfl rfl (by decide) (FW_46 S hW) rfl ?_
                refine q_bipush rfl rfl ?_
                refine q_iload_n rfl rfl rfl ?_
                refine q_imul rfl rfl (q_tn (z := 60) rfl ?_)
                refine q_iload_n rfl rfl rfl ?_
                refine q_iadd rfl rfl (q_tn (z := 99) rfl ?_)
                refine q_lconst rfl rfl ?_
                refine q_last rfl rfl (by decide) rfl (by decide) ?_
                refine q_icc2 (z := 40) rfl rfl rfl rfl rfl ?_
                refine q_goto rfl ?_
                refine q_iload_n rfl rfl rfl ?_
                refine q_bipush rfl rfl ?_
                refine q_icge rfl rfl (fun c729 => absurd c729 (by decide)) (fun c729 => ?_)
                refine q_aload_n rfl rfl rfl ?_
                refine q_getf rfl rfl (by decide) (FW_46 S hW) rfl ?_
                refine q_bipush rfl rfl ?_
                refine q_iload_n rfl rfl rfl ?_
                refine q_imul rfl rfl (q_tn (z := 60) rfl ?_)
                refine q_iload_n rfl rfl rfl ?_
                refine q_iadd rfl rfl (q_tn (z := 100) rfl ?_)
                refine q_lconst rfl rfl ?_
                refine q_last rfl rfl (by decide) rfl (by decide) ?_
                refine q_icc2 (z := 41) rfl rfl rfl rfl rfl ?_
                refine q_goto rfl ?_
                refine q_iload_n rfl rfl rfl ?_
                refine q_bipush rfl rfl ?_
                refine q_icge rfl rfl (fun c730 => absurd c730 (by decide)) (fun c730 => ?_)
                refine q_aload_n rfl rfl rfl ?_
                refine q_getf rfl rfl (by decide) (FW_46 S hW) rfl ?_
                refine q_bipush rfl rfl ?_
                refine q_iload_n rfl rfl rfl ?_
                refine q_imul rfl rfl (q_tn (z := 60) rfl ?_)
                refine q_iload_n rfl rfl rfl ?_
                refine q_iadd rfl rfl (q_tn (z := 101) rfl ?_)
                refine q_lconst rfl rfl ?_
                refine q_last rfl rfl (by decide) rfl (by decide) ?_
                refine q_icc2 (z := 42) rfl rfl rfl rfl rfl ?_
                refine q_goto rfl ?_
                refine q_iload_n rfl rfl rfl ?_
                refine q_bipush rfl rfl ?_
                refine q_icge rfl rfl (fun c731 => absurd c731 (by decide)) (fun c731 => ?_)
                refine q_aload_n rfl rfl rfl ?_
                refine q_getf rfl rfl (by decide) (FW_46 S hW) rfl ?_
                refine q_bipush rfl rfl ?_
                refine q_iload_n rfl rfl rfl ?_
                refine q_imul rfl rfl (q_tn (z := 60) rfl ?_)
                refine q_iload_n rfl rfl rfl ?_
                refine q_iadd rfl rfl (q_tn (z := 102) rfl ?_)
                refine q_lconst rfl rfl ?_
                refine q_last rfl rfl (by decide) rfl (by decide) ?_
                refine q_icc2 (z := 43) rfl rfl rfl rfl rfl ?_
                refine q_goto rfl ?_
                refine q_iload_n rfl rfl rfl ?_
                refine q_bipush rfl rfl ?_
                refine q_icge rfl rfl (fun c732 => absurd c732 (by decide)) (fun c732 => ?_)
                refine q_aload_n rfl rfl rfl ?_
                refine q_getf rfl rfl (by decide) (FW_46 S hW) rfl ?_
                refine q_bipush rfl rfl ?_
                refine q_iload_n rfl rfl rfl ?_
                refine q_imul rfl rfl (q_tn (z := 60) rfl ?_)
                refine q_iload_n rfl rfl rfl ?_
                refine q_iadd rfl rfl (q_tn (z := 103) rfl ?_)
                refine q_lconst rfl rfl ?_
                refine q_last rfl rfl (by decide) rfl (by decide) ?_
                refine q_icc2 (z := 44) rfl rfl rfl rfl rfl ?_
                refine q_goto rfl ?_
                refine q_iload_n rfl rfl rfl ?_
                refine q_bipush rfl rfl ?_
                refine q_icge rfl rfl (fun c733 => absurd c733 (by decide)) (fun c733 => ?_)
                refine q_aload_n rfl rfl rfl ?_
                refine q_getf rfl rfl (by decide) (FW_46 S hW) rfl ?_
                refine q_bipush rfl rfl ?_
                refine q_iload_n rfl rfl rfl ?_
                refine q_imul rfl rfl (q_tn (z := 60) rfl ?_)
                refine q_iload_n rfl rfl rfl ?_
                refine q_iadd rfl rfl (q_tn (z := 104) rfl ?_)
                refine q_lconst rfl rfl ?_
                refine q_last rfl rfl (by decide) rfl (by decide) ?_
                refine q_icc2 (z := 45) rfl rfl rfl rfl rfl ?_
                refine q_goto rfl ?_
                refine q_iload_n rfl rfl rfl ?_
                refine q_bipush rfl rfl ?_
                refine q_icge rfl rfl (fun c734 => absurd c734 (by decide)) (fun c734 => ?_)
                refine q_aload_n rfl rfl rfl ?_
                refine q_getf rfl rfl (by decide) (FW_46 S hW) rfl ?_
                refine q_bipush rfl rfl ?_
                refine q_iload_n rfl rfl rfl ?_
                refine q_imul rfl rfl (q_tn (z := 60) rfl ?_)
                refine q_iload_n rfl rfl rfl ?_
                refine q_iadd rfl rfl (q_tn (z := 105) rfl ?_)
                refine q_lconst rfl rfl ?_
                refine q_last rfl rfl (by decide) rfl (by decide) ?_
                refine q_icc2 (z := 46) rfl rfl rfl rfl rfl ?_
                refine q_goto rfl ?_
                refine q_iload_n rfl rfl rfl ?_
                refine q_bipush rfl rfl ?_
                refine q_icge rfl rfl (fun c735 => absurd c735 (by decide)) (fun c735 => ?_)
                refine q_aload_n rfl rfl rfl ?_
                refine q_getf rfl rfl (by decide) (FW_46 S hW) rfl ?_
                refine q_bipush rfl rfl ?_
                refine q_iload_n rfl rfl rfl ?_
                refine q_imul rfl rfl (q_tn (z := 60) rfl ?_)
                refine q_iload_n rfl rfl rfl ?_
                refine q_iadd rfl rfl (q_tn (z := 106) rfl ?_)
                refine q_lconst rfl rfl ?_
                refine q_last rfl rfl (by decide) rfl (by decide) ?_
                refine q_icc2 (z := 47) rfl rfl rfl rfl rfl ?_
                refine q_goto rfl ?_
                refine q_iload_n rfl rfl rfl ?_
                refine q_bipush rfl rfl ?_
                refine q_icge rfl rfl (fun c736 => absurd c736 (by decide)) (fun c736 => ?_)
                refine q_aload_n rfl rfl rfl ?_
                refine q_getf rfl rfl (by decide) (FW_46 S hW) rfl ?_
                refine q_bipush rfl rfl ?_
                refine q_iload_n rfl rfl rfl ?_
                refine q_imul rfl rfl (q_tn (z := 60) rfl ?_)
                refine q_iload_n rfl rfl rfl ?_
                refine q_iadd rfl rfl (q_tn (z := 107) rfl ?_)
                refine q_lconst rfl rfl ?_
                refine q_last rfl rfl (by decide) rfl (by decide) ?_
                refine q_icc2 (z := 48) rfl rfl rfl rfl rfl ?_
                refine q_goto rfl ?_
                refine q_iload_n rfl rfl rfl ?_
                refine q_bipush rfl rfl ?_
                refine q_icge rfl rfl (fun c737 => absurd c737 (by decide)) (fun c737 => ?_)
                refine q_aload_n rfl rfl rfl ?_
                refine q_getf rfl rfl (by decide) (FW_46 S hW) rfl ?_
                refine q_bipush rfl rfl ?_
                refine q_iload_n rfl rfl rfl ?_
                refine q_imul rfl rfl (q_tn (z := 60) rfl ?_)
                refine q_iload_n rfl rfl rfl ?_
                refine q_iadd rfl rfl (q_tn (z := 108) rfl ?_)
                refine q_lconst rfl rfl ?_
                refine q_last rfl rfl (by decide) rfl (by decide) ?_
                refine q_icc2 (z := 49) rfl rfl rfl rfl rfl ?_
                refine q_goto rfl ?_
                refine q_iload_n rfl rfl rfl ?_
                refine q_bipush rfl rfl ?_
                refine q_icge rfl rfl (fun c738 => absurd c738 (by decide)) (fun c738 => ?_)
                refine q_aload_n rfl rfl rfl ?_
                refine q_getf rfl rfl (by decide) (FW_46 S hW) rfl ?_
                refine q_bipush rfl rfl ?_
                refine q_iload_n rfl rfl rfl ?_
                refine q_imul rfl rfl (q_tn (z := 60) rfl ?_)
                refine q_iload_n rfl rfl rfl ?_
                refine q_iadd rfl rfl (q_tn (z := 109) rfl ?_)
                refine q_lconst rfl rfl ?_
                refine q_last rfl rfl (by decide) rfl (by decide) ?_
                refine q_icc2 (z := 50) rfl rfl rfl rfl rfl ?_
                refine q_goto rfl ?_
                refine q_iload_n rfl rfl rfl ?_
                refine q_bipush rfl rfl ?_
                refine q_icge rfl rfl (fun c739 => absurd c739 (by decide)) (fun c739 => ?_)
                refine q_aload_n rfl rfl rfl ?_
                refine q_getf rfl rfl (by decide) (FW_46 S hW) rfl ?_
                refine q_bipush rfl rfl ?_
                refine q_iload_n rfl rfl rfl ?_
                refine q_imul rfl rfl (q_tn (z := 60) rfl ?_)
                refine q_iload_n rfl rfl rfl ?_
                refine q_iadd rfl rfl (q_tn (z := 110) rfl ?_)
                refine q_lconst rfl rfl ?_
                refine q_last rfl rfl (by decide) rfl (by decide) ?_
                refine q_icc2 (z := 51) rfl rfl rfl rfl rfl ?_
                refine q_goto rfl ?_
                refine q_iload_n rfl rfl rfl ?_
                refine q_bipush rfl rfl ?_
                refine q_icge rfl rfl (fun c740 => absurd c740 (by decide)) (fun c740 => ?_)
                refine q_aload_n rfl rfl rfl ?_
                refine q_getf rfl rfl (by decide) (FW_46 S hW) rfl ?_
                refine q_bipush rfl rfl ?_
                refine q_iload_n rfl rfl rfl ?_
                refine q_imul rfl rfl (q_tn (z := 60) rfl ?_)
                refine q_iload_n rfl rfl rfl ?_
                refine q_iadd rfl rfl (q_tn (z := 111) rfl ?_)
                refine q_lconst rfl rfl ?_
                refine q_last rfl rfl (by decide) rfl (by decide) ?_
                refine q_icc2 (z := 52) rfl rfl rfl rfl rfl ?_
                refine q_goto rfl ?_
                refine q_iload_n rfl rfl rfl ?_
                refine q_bipush rfl rfl ?_
                refine q_icge rfl rfl (fun c741 => absurd c741 (by decide)) (fun c741 => ?_)
                refine q_aload_n rfl rfl rfl ?_
                refine q_getf rfl rfl (by decide) (FW_46 S hW) rfl ?_
                refine q_bipush rfl rfl ?_
                refine q_iload_n rfl rfl rfl ?_
                refine q_imul rfl rfl (q_tn (z := 60) rfl ?_)
                refine q_iload_n rfl rfl rfl ?_
                refine q_iadd rfl rfl (q_tn (z := 112) rfl ?_)
                refine q_lconst rfl rfl ?_
                refine q_last rfl rfl (by decide) rfl (by decide) ?_
                refine q_icc2 (z := 53) rfl rfl rfl rfl rfl ?_
                refine q_goto rfl ?_
                refine q_iload_n rfl rfl rfl ?_
                refine q_bipush rfl rfl ?_
                refine q_icge rfl rfl (fun c742 => absurd c742 (by decide)) (fun c742 => ?_)
                refine q_aload_n rfl rfl rfl ?_
                refine q_getf rfl rfl (by decide) (FW_46 S hW) rfl ?_
                refine q_bipush rfl rfl ?_
                refine q_iload_n rfl rfl rfl ?_
                refine q_imul rfl rfl (q_tn (z := 60) rfl ?_)
                refine q_iload_n rfl rfl rfl ?_
                refine q_iadd rfl rfl (q_tn (z := 113) rfl ?_)
                refine q_lconst rfl rfl ?_
                refine q_last rfl rfl (by decide) rfl (by decide) ?_
                refine q_icc2 (z := 54) rfl rfl rfl rfl rfl ?_
                refine q_goto rfl ?_
                refine q_iload_n rfl rfl rfl ?_
                refine q_bipush rfl rfl ?_
                refine q_icge rfl rfl (fun c743 => absurd c743 (by decide)) (fun c743 => ?_)
                refine q_aload_n rfl rfl rfl ?_
                refine q_getf rfl rfl (by decide) (FW_46 S hW) rfl ?_
                refine q_bipush rfl rfl ?_
                refine q_iload_n rfl rfl rfl ?_
                refine q_imul rfl rfl (q_tn (z := 60) rfl ?_)
                refine q_iload_n rfl rfl rfl ?_
                refine q_iadd rfl rfl (q_tn (z := 114) rfl ?_)
                refine q_lconst rfl rfl ?_
                refine q_last rfl rfl (by decide) rfl (by decide) ?_
                refine q_icc2 (z := 55) rfl rfl rfl rfl rfl ?_
                refine q_goto rfl ?_
                refine q_iload_n rfl rfl rfl ?_
                refine q_bipush rfl rfl ?_
                refine q_icge rfl rfl (fun c744 => absurd c744 (by decide)) (fun c744 => ?_)
                refine q_aload_n rfl rfl rfl ?_
                refine q_getf rfl rfl (by decide) (FW_46 S hW) rfl ?_
                refine q_bipush rfl rfl ?_
                refine q_iload_n rfl rfl rfl ?_
                refine q_imul rfl rfl (q_tn (z := 60) rfl ?_)
                refine q_iload_n rfl rfl rfl ?_
                refine q_iadd rfl rfl (q_tn (z := 115) rfl ?_)
                refine q_lconst rfl rfl ?_
                refine q_last rfl rfl (by decide) rfl (by decide) ?_
                refine q_icc2 (z := 56) rfl rfl rfl rfl rfl ?_
                refine q_goto rfl ?_
                refine q_iload_n rfl rfl rfl ?_
                refine q_bipush rfl rfl ?_
                refine q_icge rfl rfl (fun c745 => absurd c745 (by decide)) (fun c745 => ?_)
                refine q_aload_n rfl rfl rfl ?_
                refine q_getf rfl rfl (by decide) (FW_46 S hW) rfl ?_
                refine q_bipush rfl rfl ?_
                refine q_iload_n rfl rfl rfl ?_
                refine q_imul rfl rfl (q_tn (z := 60) rfl ?_)
                refine q_iload_n rfl rfl rfl ?_
                refine q_iadd rfl rfl (q_tn (z := 116) rfl ?_)
                refine q_lconst rfl rfl ?_
                refine q_last rfl rfl (by decide) rfl (by decide) ?_
                refine q_icc2 (z := 57) rfl rfl rfl rfl rfl ?_
                refine q_goto rfl ?_
                refine q_iload_n rfl rfl rfl ?_
                refine q_bipush rfl rfl ?_
                refine q_icge rfl rfl (fun c746 => absurd c746 (by decide)) (fun c746 => ?_)
                refine q_aload_n rfl rfl rfl ?_
                refine q_getf rfl rfl (by decide) (FW_46 S hW) rfl ?_
                refine q_bipush rfl rfl ?_
                refine q_iload_n rfl rfl rfl ?_
                refine q_imul rfl rfl (q_tn (z := 60) rfl ?_)
                refine q_iload_n rfl rfl rfl ?_
                refine q_iadd rfl rfl (q_tn (z := 117) rfl ?_)
                refine q_lconst rfl rfl ?_
                refine q_last rfl rfl (by decide) rfl (by decide) ?_
                refine q_icc2 (z := 58) rfl rfl rfl rfl rfl ?_
                refine q_goto rfl ?_
                refine q_iload_n rfl rfl rfl ?_
                refine q_bipush rfl rfl ?_
                refine q_icge rfl rfl (fun c747 => absurd c747 (by decide)) (fun c747 => ?_)
                refine q_aload_n rfl rfl rfl ?_
                refine q_getf rfl rfl (by decide) (FW_46 S hW) rfl ?_
                refine q_bipush rfl rfl ?_
                refine q_iload_n rfl rfl rfl ?_
                refine q_imul rfl rfl (q_tn (z := 60) rfl ?_)
                refine q_iload_n rfl rfl rfl ?_
                refine q_iadd rfl rfl (q_tn (z := 118) rfl ?_)
                refine q_lconst rfl rfl ?_
                refine q_last rfl rfl (by decide) rfl (by decide) ?_
                refine q_icc2 (z := 59) rfl rfl rfl rfl rfl ?_
                refine q_goto rfl ?_
                refine q_iload_n rfl rfl rfl ?_
                refine q_bipush rfl rfl ?_
                refine q_icge rfl rfl (fun c748 => absurd c748 (by decide)) (fun c748 => ?_)
                refine q_aload_n rfl rfl rfl ?_
                refine q_getf rfl rfl (by decide) (FW_46 S hW) rfl ?_
                refine q_bipush rfl rfl ?_
                refine q_iload_n rfl rfl rfl ?_
                refine q_imul rfl rfl (q_tn (z := 60) rfl ?_)
                refine q_iload_n rfl rfl rfl ?_
                refine q_iadd rfl rfl (q_tn (z := 119) rfl ?_)
                refine q_lconst rfl rfl ?_
                refine q_last rfl rfl (by decide) rfl (by decide) ?_
                refine q_icc2 (z := 60) rfl rfl rfl rfl rfl ?_
                refine q_goto rfl ?_
                refine q_iload_n rfl rfl rfl ?_
                refine q_bipush rfl rfl ?_
                refine q_icge rfl rfl (fun c749 => ?_) (fun c749 => absurd (by decide) c749)
                refine q_ret rfl rfl ?_
                refine ⟨rfl, ?_⟩
                refine q_iconst rfl rfl ?_
                refine q_iret rfl rfl trivial ?_
                refine ⟨_, rfl, ?_⟩
                refine q_iceq rfl rfl (fun c750 => ?_) (fun c750 => absurd (by decide) c750)
                refine q_icc4 (z := 6) rfl rfl rfl rfl rfl ?_
                refine q_goto rfl ?_
                refine q_iload rfl rfl rfl ?_
                refine q_aload_nF rfl rfl rfl ?_
                refine q_alenX (x := 6) rfl rfl rfl ?_
                refine q_bipush rfl rfl ?_
                refine q_isub rfl rfl (q_tn (z := 0) rfl ?_)
                refine q_icgt rfl rfl (fun c751 => ?_) (fun c751 => absurd (by decide) c751)
                refine q_iconst rfl rfl ?_
                refine q_iret rfl rfl rfl ?_
                exact hK _ _
              · refine q_aast rfl rfl (by decide) (by decide) (FW_43 S hW) rfl rfl (by decide) ?_
                refine q_iconst rfl rfl ?_
                refine q_iret rfl rfl trivial ?_
                refine ⟨_, rfl, ?_⟩
                refine q_aload_n rfl rfl rfl ?_
                refine q_aload_nF rfl rfl rfl ?_
                refine q_iload rfl rfl rfl ?_
                refine q_iconst rfl rfl ?_
                refine q_iadd rfl rfl (q_tn (z := 1) rfl ?_)
                refine q_ialdX (x := 2) rfl rfl rfl hx1 ?_
                refine q_aload_nF rfl rfl rfl ?_
                refine q_iload rfl rfl rfl ?_
                refine q_iconst rfl rfl ?_
                refine q_iadd rfl rfl (q_tn (z := 2) rfl ?_)
                refine q_ialdX (x := 4) rfl rfl rfl hx2 ?_
                refine q_aload_nF rfl rfl rfl ?_
                refine q_iload rfl rfl rfl ?_
                refine q_iconst rfl rfl ?_
                refine q_iadd rfl rfl (q_tn (z := 3) rfl ?_)
                refine q_ialdX (x := x3) rfl rfl rfl hx3 ?_
                refine q_nV3 rfl rfl (Or.inl rfl) rfl rfl rfl (by decide) (FW_46 S hW) ⟨rfl, rfl⟩ rfl ?_
                change PQ _ _ _ mm_X12_make 0 [.ref 46, .int 2, .int 4, .int x3] [] _ _ 0 0 _
                refine q_aload_n rfl rfl rfl ?_
                refine q_iload_n rfl rfl rfl ?_
                refine q_nV1 rfl rfl (Or.inl rfl) rfl rfl rfl (by decide) (FW_46 S hW) ⟨rfl, rfl⟩ rfl ?_
                change PQ _ _ _ mm_X12_isShelf 0 [.ref 46, .int 2] [] _ _ 0 0 _
                refine q_aload_n rfl rfl rfl ?_
                refine q_iload_n rfl rfl rfl ?_
                refine q_iconst rfl rfl ?_
                refine q_bipush rfl rfl ?_
                refine q_nV3 rfl rfl (Or.inl rfl) rfl rfl rfl (by decide) (FW_46 S hW) ⟨rfl, rfl⟩ rfl ?_
                change PQ _ _ _ mm_X12_in 0 [.ref 46, .int 2, .int 0, .int 7] [] _ _ 0 0 _
                refine q_iload_n rfl rfl rfl ?_
                refine q_iload_n rfl rfl rfl ?_
                refine q_iclt rfl rfl (fun c752 => absurd c752 (by decide)) (fun c752 => ?_)
                refine q_iload_n rfl rfl rfl ?_
                refine q_iload_n rfl rfl rfl ?_
                refine q_icgt rfl rfl (fun c753 => absurd c753 (by decide)) (fun c753 => ?_)
                refine q_iconst rfl rfl ?_
                refine q_goto rfl ?_
                refine q_iret rfl rfl rfl ?_
                refine ⟨_, rfl, ?_⟩
                refine q_iret rfl rfl rfl ?_
                refine ⟨_, rfl, ?_⟩
                refine q_ifeq rfl rfl (fun c754 => absurd c754 (by decide)) (fun c754 => ?_)
                refine q_aload_n rfl rfl rfl ?_
                refine q_iload_n rfl rfl rfl ?_
                refine q_iconst rfl rfl ?_
                refine q_iconst rfl rfl ?_
                refine q_nV3 rfl rfl (Or.inl rfl) rfl rfl rfl (by decide) (FW_46 S hW) ⟨rfl, rfl⟩ rfl ?_
                change PQ _ _ _ mm_X12_in 0 [.ref 46, .int 4, .int 3, .int 4] [] _ _ 0 0 _
                refine q_iload_n rfl rfl rfl ?_
                refine q_iload_n rfl rfl rfl ?_
                refine q_iclt rfl rfl (fun c755 => absurd c755 (by decide)) (fun c755 => ?_)
                refine q_iload_n rfl rfl rfl ?_
                refine q_iload_n rfl rfl rfl ?_
                refine q_icgt rfl rfl (fun c756 => absurd c756 (by decide)) (fun c756 => ?_)
                refine q_iconst rfl rfl ?_
                refine q_goto rfl ?_
                refine q_iret rfl rfl rfl ?_
                refine ⟨_, rfl, ?_⟩
                refine q_ifeq rfl rfl (fun c757 => absurd c757 (by decide)) (fun c757 => ?_)
                refine q_iload_n rfl rfl rfl ?_
                refine q_bipush rfl rfl ?_
                refine q_icle rfl rfl (fun c758 => ?_) (fun c758 => absurd (i_le_t c607 rfl) c758)
                refine q_iload_n rfl rfl rfl ?_
                refine q_ifge rfl rfl (fun c759 => ?_) (fun c759 => absurd (i_ge_t c608 rfl) c759)
                refine q_aload_n rfl rfl rfl ?_
                refine q_getf rfl rfl (by decide) (FW_46 S hW) rfl ?_
                refine q_iload_n rfl rfl rfl ?_
                refine q_iload_n rfl rfl rfl ?_
                refine q_iast rfl rfl (by decide) (FW_75 S hW) (by decide) ?_
                refine q_aload_n rfl rfl rfl ?_
                refine q_getf rfl rfl (by decide) (FW_46 S hW) rfl ?_
                refine q_iload_n rfl rfl rfl ?_
                refine q_iload_n rfl rfl rfl ?_
                refine q_iast rfl rfl (by decide) (FW_78 S hW) (by decide) ?_
                refine q_aload_n rfl rfl rfl ?_
                refine q_iload_n rfl rfl rfl ?_
                refine q_nV1v rfl rfl (Or.inl rfl) rfl rfl rfl (by decide) (FW_46 S hW) ⟨rfl, rfl⟩ rfl ?_
                change PQ _ _ _ mm_X12_clear 0 [.ref 46, .int 2, pm_un] [] _ _ 0 0 _
                refine q_iconst rfl rfl ?_
                refine q_ist2n rfl rfl rfl rfl ?_
                refine q_iload_n rfl rfl rfl ?_
                refine q_bipush rfl rfl ?_
                refine q_icge rfl rfl (fun c760 => absurd c760 (by decide)) (fun c760 => ?_)
                refine q_aload_n rfl rfl rfl ?_
                refine q_getf rfl rfl (by decide) (FW_46 S hW) rfl ?_
                refine q_bipush rfl rfl ?_
                refine q_iload_n rfl rfl rfl ?_
                refine q_imul rfl rfl (q_tn (z := 120) rfl ?_)
                refine q_iload_n rfl rfl rfl ?_
                refine q_iadd rfl rfl (q_tn (z := 120) rfl ?_)
                refine q_lconst rfl rfl ?_
                refine q_last rfl rfl (by decide) (FW_79 S hW) (by decide) ?_
                refine q_icc2 (z := 1) rfl rfl rfl rfl rfl ?_
                refine q_goto rfl ?_
                refine q_iload_n rfl rfl rfl ?_
                refine q_bipush rfl rfl ?_
                refine q_icge rfl rfl (fun c761 => absurd c761 (by decide)) (fun c761 => ?_)
                refine q_aload_n rfl rfl rfl ?_
                refine q_getf rfl rfl (by decide) (FW_46 S hW) rfl ?_
                refine q_bipush rfl rfl ?_
                refine q_iload_n rfl rfl rfl ?_
                refine q_imul rfl rfl (q_tn (z := 120) rfl ?_)
                refine q_iload_n rfl rfl rfl ?_
                refine q_iadd rfl rfl (q_tn (z := 121) rfl ?_)
                refine q_lconst rfl rfl ?_
                refine q_last rfl rfl (by decide) rfl (by decide) ?_
                refine q_icc2 (z := 2) rfl rfl rfl rfl rfl ?_
                refine q_goto rfl ?_
                refine q_iload_n rfl rfl rfl ?_
                refine q_bipush rfl rfl ?_
                refine q_icge rfl rfl (fun c762 => absurd c762 (by decide)) (fun c762 => ?_)
                refine q_aload_n rfl rfl rfl ?_
                refine q_getf rfl rfl (by decide) (FW_46 S hW) rfl ?_
                refine q_bipush rfl rfl ?_
                refine q_iload_n rfl rfl rfl ?_
                refine q_imul rfl rfl (q_tn (z := 120) rfl ?_)
                refine q_iload_n rfl rfl rfl ?_
                refine q_iadd rfl rfl (q_tn (z := 122) rfl ?_)
                refine q_lconst rfl rfl ?_
                refine q_last rfl rfl (by decide) rfl (by decide) ?_
                refine q_icc2 (z := 3) rfl rfl rfl rfl rfl ?_
                refine q_goto rfl ?_
                refine q_iload_n rfl rfl rfl ?_
                refine q_bipush rfl rfl ?_
                refine q_icge rfl rfl (fun c763 => absurd c763 (by decide)) (fun c763 => ?_)
                refine q_aload_n rfl rfl rfl ?_
                refine q_getf rfl rfl (by decide) (FW_46 S hW) rfl ?_
                refine q_bipush rfl rfl ?_
                refine q_iload_n rfl rfl rfl ?_
                refine q_imul rfl rfl (q_tn (z := 120) rfl ?_)
                refine q_iload_n rfl rfl rfl ?_
                refine q_iadd rfl rfl (q_tn (z := 123) rfl ?_)
                refine q_lconst rfl rfl ?_
                refine q_last rfl rfl (by decide) rfl (by decide) ?_
                refine q_icc2 (z := 4) rfl rfl rfl rfl rfl ?_
                refine q_goto rfl ?_
                refine q_iload_n rfl rfl rfl ?_
                refine q_bipush rfl rfl ?_
                refine q_icge rfl rfl (fun c764 => absurd c764 (by decide)) (fun c764 => ?_)
                refine q_aload_n rfl rfl rfl ?_
                refine q_getf rfl rfl (by decide) (FW_46 S hW) rfl ?_
                refine q_bipush rfl rfl ?_
                refine q_iload_n rfl rfl rfl ?_
                refine q_imul rfl rfl (q_tn (z := 120) rfl ?_)
                refine q_iload_n rfl rfl rfl ?_
                refine q_iadd rfl rfl (q_tn (z := 124) rfl ?_)
                refine q_lconst rfl rfl ?_
                refine q_last rfl rfl (by decide) rfl (by decide) ?_
                refine q_icc2 (z := 5) rfl rfl rfl rfl rfl ?_
                refine q_goto rfl ?_
                refine q_iload_n rfl rfl rfl ?_
                refine q_bipush rfl rfl ?_
                refine q_icge rfl rfl (fun c765 => absurd c765 (by decide)) (fun c765 => ?_)
                refine q_aload_n rfl rfl rfl ?_
                refine q_getf rfl rfl (by decide) (FW_46 S hW) rfl ?_
                refine q_bipush rfl rfl ?_
                refine q_iload_n rfl rfl rfl ?_
                refine q_imul rfl rfl (q_tn (z := 120) rfl ?_)
                refine q_iload_n rfl rfl rfl ?_
                refine q_iadd rfl rfl (q_tn (z := 125) rfl ?_)
                refine q_lconst rfl rfl ?_
                refine q_last rfl rfl (by decide) rfl (by decide) ?_
                refine q_icc2 (z := 6) rfl rfl rfl rfl rfl ?_
                refine q_goto rfl ?_
                refine q_iload_n rfl rfl rfl ?_
                refine q_bipush rfl rfl ?_
                refine q_icge rfl rfl (fun c766 => absurd c766 (by decide)) (fun c766 => ?_)
                refine q_aload_n rfl rfl rfl ?_
                refine q_getf rfl rfl (by decide) (FW_46 S hW) rfl ?_
                refine q_bipush rfl rfl ?_
                refine q_iload_n rfl rfl rfl ?_
                refine q_imul rfl rfl (q_tn (z := 120) rfl ?_)
                refine q_iload_n rfl rfl rfl ?_
                refine q_iadd rfl rfl (q_tn (z := 126) rfl ?_)
                refine q_lconst rfl rfl ?_
                refine q_last rfl rfl (by decide) rfl (by decide) ?_
                refine q_icc2 (z := 7) rfl rfl rfl rfl rfl ?_
                refine q_goto rfl ?_
                refine q_iload_n rfl rfl rfl ?_
                refine q_bipush rfl rfl ?_
                refine q_icge rfl rfl (fun c767 => absurd c767 (by decide)) (fun c767 => ?_)
                refine q_aload_n rfl rfl rfl ?_
                refine q_getf rfl rfl (by decide) (FW_46 S hW) rfl ?_
                refine q_bipush rfl rfl ?_
                refine q_iload_n rfl rfl rfl ?_
                refine q_imul rfl rfl (q_tn (z := 120) rfl ?_)
                refine q_iload_n rfl rfl rfl ?_
                refine q_iadd rfl rfl (q_tn (z := 127) rfl ?_)
                refine q_lconst rfl rfl ?_
                refine q_last rfl rfl (by decide) rfl (by decide) ?_
                refine q_icc2 (z := 8) rfl rfl rfl rfl rfl ?_
                refine q_goto rfl ?_
                refine q_iload_n rfl rfl rfl ?_
                refine q_bipush rfl rfl ?_
                refine q_icge rfl rfl (fun c768 => absurd c768 (by decide)) (fun c768 => ?_)
                refine q_aload_n rfl rfl rfl ?_
                refine q_getf rfl rfl (by decide) (FW_46 S hW) rfl ?_
                refine q_bipush rfl rfl ?_
                refine q_iload_n rfl rfl rfl ?_
                refine q_imul rfl rfl (q_tn (z := 120) rfl ?_)
                refine q_iload_n rfl rfl rfl ?_
                refine q_iadd rfl rfl (q_tn (z := 128) rfl ?_)
                refine q_lconst rfl rfl ?_
                refine q_last rfl rfl (by decide) rfl (by decide) ?_
                refine q_icc2 (z := 9) rfl rfl rfl rfl rfl ?_
                refine q_goto rfl ?_
                refine q_iload_n rfl rfl rfl ?_
                refine q_bipush rfl rfl ?_
                refine q_icge rfl rfl (fun c769 => absurd c769 (by decide)) (fun c769 => ?_)
                refine q_aload_n rfl rfl rfl ?_
                refine q_getf rfl rfl (by decide) (FW_46 S hW) rfl ?_
                refine q_bipush rfl rfl ?_
                refine q_iload_n rfl rfl rfl ?_
                refine q_imul rfl rfl (q_tn (z := 120) rfl ?_)
                refine q_iload_n rfl rfl rfl ?_
                refine q_iadd rfl rfl (q_tn (z := 129) rfl ?_)
                refine q_lconst rfl rfl ?_
                refine q_last rfl rfl (by decide) rfl (by decide) ?_
                refine q_icc2 (z := 10) rfl rfl rfl rfl rfl ?_
                refine q_goto rfl ?_
                refine q_iload_n rfl rfl rfl ?_
                refine q_bipush rfl rfl ?_
                refine q_icge rfl rfl (fun c770 => absurd c770 (by decide)) (fun c770 => ?_)
                refine q_aload_n rfl rfl rfl ?_
                refine q_getf rfl rfl (by decide) (FW_46 S hW) rfl ?_
                refine q_bipush rfl rfl ?_
                refine q_iload_n rfl rfl rfl ?_
                refine q_imul rfl rfl (q_tn (z := 120) rfl ?_)
                refine q_iload_n rfl rfl rfl ?_
                refine q_iadd rfl rfl (q_tn (z := 130) rfl ?_)
                refine q_lconst rfl rfl ?_
                refine q_last rfl rfl (by decide) rfl (by decide) ?_
                refine q_icc2 (z := 11) rfl rfl rfl rfl rfl ?_
                refine q_goto rfl ?_
                refine q_iload_n rfl rfl rfl ?_
                refine q_bipush rfl rfl ?_
                refine q_icge rfl rfl (fun c771 => absurd c771 (by decide)) (fun c771 => ?_)
                refine q_aload_n rfl rfl rfl ?_
                refine q_getf rfl rfl (by decide) (FW_46 S hW) rfl ?_
                refine q_bipush rfl rfl ?_
                refine q_iload_n rfl rfl rfl ?_
                refine q_imul rfl rfl (q_tn (z := 120) rfl ?_)
                refine q_iload_n rfl rfl rfl ?_
                refine q_iadd rfl rfl (q_tn (z := 131) rfl ?_)
                refine q_lconst rfl rfl ?_
                refine q_last rfl rfl (by decide) rfl (by decide) ?_
                refine q_icc2 (z := 12) rfl rfl rfl rfl rfl ?_
                refine q_goto rfl ?_
                refine q_iload_n rfl rfl rfl ?_
                refine q_bipush rfl rfl ?_
                refine q_icge rfl rfl (fun c772 => absurd c772 (by decide)) (fun c772 => ?_)
                refine q_aload_n rfl rfl rfl ?_
                refine q_getf rfl rfl (by decide) (FW_46 S hW) rfl ?_
                refine q_bipush rfl rfl ?_
                refine q_iload_n rfl rfl rfl ?_
                refine q_imul rfl rfl (q_tn (z := 120) rfl ?_)
                refine q_iload_n rfl rfl rfl ?_
                refine q_iadd rfl rfl (q_tn (z := 132) rfl ?_)
                refine q_lconst rfl rfl ?_
                refine q_last rfl rfl (by decide) rfl (by decide) ?_
                refine q_icc2 (z := 13) rfl rfl rfl rfl rfl ?_
                refine q_goto rfl ?_
                refine q_iload_n rfl rfl rfl ?_
                refine q_bipush rfl rfl ?_
                refine q_icge rfl rfl (fun c773 => absurd c773 (by decide)) (fun c773 => ?_)
                refine q_aload_n rfl rfl rfl ?_
                refine q_getf rfl rfl (by decide) (FW_46 S hW) rfl ?_
                refine q_bipush rfl rfl ?_
                refine q_iload_n rfl rfl rfl ?_
                refine q_imul rfl rfl (q_tn (z := 120) rfl ?_)
                refine q_iload_n rfl rfl rfl ?_
                refine q_iadd rfl rfl (q_tn (z := 133) rfl ?_)
                refine q_lconst rfl rfl ?_
                refine q_last rfl rfl (by decide) rfl (by decide) ?_
                refine q_icc2 (z := 14) rfl rfl rfl rfl rfl ?_
                refine q_goto rfl ?_
                refine q_iload_n rfl rfl rfl ?_
                refine q_bipush rfl rfl ?_
                refine q_icge rfl rfl (fun c774 => absurd c774 (by decide)) (fun c774 => ?_)
                refine q_aload_n rfl rfl rfl ?_
                refine q_getf rfl rfl (by decide) (FW_46 S hW) rfl ?_
                refine q_bipush rfl rfl ?_
                refine q_iload_n rfl rfl rfl ?_
                refine q_imul rfl rfl (q_tn (z := 120) rfl ?_)
                refine q_iload_n rfl rfl rfl ?_
                refine q_iadd rfl rfl (q_tn (z := 134) rfl ?_)
                refine q_lconst rfl rfl ?_
                refine q_last rfl rfl (by decide) rfl (by decide) ?_
                refine q_icc2 (z := 15) rfl rfl rfl rfl rfl ?_
                refine q_goto rfl ?_
                refine q_iload_n rfl rfl rfl ?_
                refine q_bipush rfl rfl ?_
                refine q_icge rfl rfl (fun c775 => absurd c775 (by decide)) (fun c775 => ?_)
                refine q_aload_n rfl rfl rfl ?_
                refine q_getf rfl rfl (by decide) (FW_46 S hW) rfl ?_
                refine q_bipush rfl rfl ?_
                refine q_iload_n rfl rfl rfl ?_
                refine q_imul rfl rfl (q_tn (z := 120) rfl ?_)
                refine q_iload_n rfl rfl rfl ?_
                refine q_iadd rfl rfl (q_tn (z := 135) rfl ?_)
                refine q_lconst rfl rfl ?_
                refine q_last rfl rfl (by decide) rfl (by decide) ?_
                refine q_icc2 (z := 16) rfl rfl rfl rfl rfl ?_
                refine q_goto rfl ?_
                refine q_iload_n rfl rfl rfl ?_
                refine q_bipush rfl rfl ?_
                refine q_icge rfl rfl (fun c776 => absurd c776 (by decide)) (fun c776 => ?_)
                refine q_aload_n rfl rfl rfl ?_
                refine q_getf rfl rfl (by decide) (FW_46 S hW) rfl ?_
                refine q_bipush rfl rfl ?_
                refine q_iload_n rfl rfl rfl ?_
                refine q_imul rfl rfl (q_tn (z := 120) rfl ?_)
                refine q_iload_n rfl rfl rfl ?_
                refine q_iadd rfl rfl (q_tn (z := 136) rfl ?_)
                refine q_lconst rfl rfl ?_
                refine q_last rfl rfl (by decide) rfl (by decide) ?_
                refine q_icc2 (z := 17) rfl rfl rfl rfl rfl ?_
                refine q_goto rfl ?_
                refine q_iload_n rfl rfl rfl ?_
                refine q_bipush rfl rfl ?_
                refine q_icge rfl rfl (fun c777 => absurd c777 (by decide)) (fun c777 => ?_)
                refine q_aload_n rfl rfl rfl ?_
                refine q_getf rfl rfl (by decide) (FW_46 S hW) rfl ?_
                refine q_bipush rfl rfl ?_
                refine q_iload_n rfl rfl rfl ?_
                refine q_imul rfl rfl (q_tn (z := 120) rfl ?_)
                refine q_iload_n rfl rfl rfl ?_
                refine q_iadd rfl rfl (q_tn (z := 137) rfl ?_)
                refine q_lconst rfl rfl ?_
                refine q_last rfl rfl (by decide) rfl (by decide) ?_
                refine q_icc2 (z := 18) rfl rfl rfl rfl rfl ?_
                refine q_goto rfl ?_
                refine q_iload_n rfl rfl rfl ?_
                refine q_bipush rfl rfl ?_
                refine q_icge rfl rfl (fun c778 => absurd c778 (by decide)) (fun c778 => ?_)
                refine q_aload_n rfl rfl rfl ?_
                refine q_getf rfl rfl (by decide) (FW_46 S hW) rfl ?_
                refine q_bipush rfl rfl ?_
                refine q_iload_n rfl rfl rfl ?_
                refine q_imul rfl rfl (q_tn (z := 120) rfl ?_)
                refine q_iload_n rfl rfl rfl ?_
                refine q_iadd rfl rfl (q_tn (z := 138) rfl ?_)
                refine q_lconst rfl rfl ?_
                refine q_last rfl rfl (by decide) rfl (by decide) ?_
                refine q_icc2 (z := 19) rfl rfl rfl rfl rfl ?_
                refine q_goto rfl ?_
                refine q_iload_n rfl rfl rfl ?_
                refine q_bipush rfl rfl ?_
                refine q_icge rfl rfl (fun c779 => absurd c779 (by decide)) (fun c779 => ?_)
                refine q_aload_n rfl rfl rfl ?_
                refine q_getf rfl rfl (by decide) (FW_46 S hW) rfl ?_
                refine q_bipush rfl rfl ?_
                refine q_iload_n rfl rfl rfl ?_
                refine q_imul rfl rfl (q_tn (z := 120) rfl ?_)
                refine q_iload_n rfl rfl rfl ?_
                refine q_iadd rfl rfl (q_tn (z := 139) rfl ?_)
                refine q_lconst rfl rfl ?_
                refine q_last rfl rfl (by decide) rfl (by decide) ?_
                refine q_icc2 (z := 20) rfl rfl rfl rfl rfl ?_
                refine q_goto rfl ?_
                refine q_iload_n rfl rfl rfl ?_
                refine q_bipush rfl rfl ?_
                refine q_icge rfl rfl (fun c780 => absurd c780 (by decide)) (fun c780 => ?_)
                refine q_aload_n rfl rfl rfl ?_
                refine q_getf rfl rfl (by decide) (FW_46 S hW) rfl ?_
                refine q_bipush rfl rfl ?_
                refine q_iload_n rfl rfl rfl ?_
                refine q_imul rfl rfl (q_tn (z := 120) rfl ?_)
                refine q_iload_n rfl rfl rfl ?_
                refine q_iadd rfl rfl (q_tn (z := 140) rfl ?_)
                refine q_lconst rfl rfl ?_
                refine q_last rfl rfl (by decide) rfl (by decide) ?_
                refine q_icc2 (z := 21) rfl rfl rfl rfl rfl ?_
                refine q_goto rfl ?_
                refine q_iload_n rfl rfl rfl ?_
                refine q_bipush rfl rfl ?_
                refine q_icge rfl rfl (fun c781 => absurd c781 (by decide)) (fun c781 => ?_)
                refine q_aload_n rfl rfl rfl ?_
                refine q_getf rfl rfl (by decide) (FW_46 S hW) rfl ?_
                refine q_bipush rfl rfl ?_
                refine q_iload_n rfl rfl rfl ?_
                refine q_imul rfl rfl (q_tn (z := 120) rfl ?_)
                refine q_iload_n rfl rfl rfl ?_
                refine q_iadd rfl rfl (q_tn (z := 141) rfl ?_)
                refine q_lconst rfl rfl ?_
                refine q_last rfl rfl (by decide) rfl (by decide) ?_
                refine q_icc2 (z := 22) rfl rfl rfl rfl rfl ?_
                refine q_goto rfl ?_
                refine q_iload_n rfl rfl rfl ?_
                refine q_bipush rfl rfl ?_
                refine q_icge rfl rfl (fun c782 => absurd c782 (by decide)) (fun c782 => ?_)
                refine q_aload_n rfl rfl rfl ?_
                refine q_getf rfl rfl (by decide) (FW_46 S hW) rfl ?_
                refine q_bipush rfl rfl ?_
                refine q_iload_n rfl rfl rfl ?_
                refine q_imul rfl rfl (q_tn (z := 120) rfl ?_)
                refine q_iload_n rfl rfl rfl ?_
                refine q_iadd rfl rfl (q_tn (z := 142) rfl ?_)
                refine q_lconst rfl rfl ?_
                refine q_last rfl rfl (by decide) rfl (by decide) ?_
                refine q_icc2 (z := 23) rfl rfl rfl rfl rfl ?_
                refine q_goto rfl ?_
                refine q_iload_n rfl rfl rfl ?_
                refine q_bipush rfl rfl ?_
                refine q_icge rfl rfl (fun c783 => absurd c783 (by decide)) (fun c783 => ?_)
                refine q_aload_n rfl rfl rfl ?_
                refine q_getf rfl rfl (by decide) (FW_46 S hW) rfl ?_
                refine q_bipush rfl rfl ?_
                refine q_iload_n rfl rfl rfl ?_
                refine q_imul rfl rfl (q_tn (z := 120) rfl ?_)
                refine q_iload_n rfl rfl rfl ?_
                refine q_iadd rfl rfl (q_tn (z := 143) rfl ?_)
                refine q_lconst rfl rfl ?_
                refine q_last rfl rfl (by decide) rfl (by decide) ?_
                refine q_icc2 (z := 24) rfl rfl rfl rfl rfl ?_
                refine q_goto rfl ?_
                refine q_iload_n rfl rfl rfl ?_
                refine q_bipush rfl rfl ?_
                refine q_icge rfl rfl (fun c784 => absurd c784 (by decide)) (fun c784 => ?_)
                refine q_aload_n rfl rfl rfl ?_
                refine q_getf rfl rfl (by decide) (FW_46 S hW) rfl ?_
                refine q_bipush rfl rfl ?_
                refine q_iload_n rfl rfl rfl ?_
                refine q_imul rfl rfl (q_tn (z := 120) rfl ?_)
                refine q_iload_n rfl rfl rfl ?_
                refine q_iadd rfl rfl (q_tn (z := 144) rfl ?_)
                refine q_lconst rfl rfl ?_
                refine q_last rfl rfl (by decide) rfl (by decide) ?_
                refine q_icc2 (z := 25) rfl rfl rfl rfl rfl ?_
                refine q_goto rfl ?_
                refine q_iload_n rfl rfl rfl ?_
                refine q_bipush rfl rfl ?_
                refine q_icge rfl rfl (fun c785 => absurd c785 (by decide)) (fun c785 => ?_)
                refine q_aload_n rfl rfl rfl ?_
                refine q_getf rfl rfl (by decide) (FW_46 S hW) rfl ?_
                refine q_bipush rfl rfl ?_
                refine q_iload_n rfl rfl rfl ?_
                refine q_imul rfl rfl (q_tn (z := 120) rfl ?_)
                refine q_iload_n rfl rfl rfl ?_
                refine q_iadd rfl rfl (q_tn (z := 145) rfl ?_)
                refine q_lconst rfl rfl ?_
                refine q_last rfl rfl (by decide) rfl (by decide) ?_
                refine q_icc2 (z := 26) rfl rfl rfl rfl rfl ?_
                refine q_goto rfl ?_
                refine q_iload_n rfl rfl rfl ?_
                refine q_bipush rfl rfl ?_
                refine q_icge rfl rfl (fun c786 => absurd c786 (by decide)) (fun c786 => ?_)
                refine q_aload_n rfl rfl rfl ?_
                refine q_getf rfl rfl (by decide) (FW_46 S hW) rfl ?_
                refine q_bipush rfl rfl ?_
                refine q_iload_n rfl rfl rfl ?_
                refine q_imul rfl rfl (q_tn (z := 120) rfl ?_)
                refine q_iload_n rfl rfl rfl ?_
                refine q_iadd rfl rfl (q_tn (z := 146) rfl ?_)
                refine q_lconst rfl rfl ?_
                refine q_last rfl rfl (by decide) rfl (by decide) ?_
                refine q_icc2 (z := 27) rfl rfl rfl rfl rfl ?_
                refine q_goto rfl ?_
                refine q_iload_n rfl rfl rfl ?_
                refine q_bipush rfl rfl ?_
                refine q_icge rfl rfl (fun c787 => absurd c787 (by decide)) (fun c787 => ?_)
                refine q_aload_n rfl rfl rfl ?_
                refine q_getf rfl rfl (by decide) (FW_46 S hW) rfl ?_
                refine q_bipush rfl rfl ?_
                refine q_iload_n rfl rfl rfl ?_
                refine q_imul rfl rfl (q_tn (z := 120) rfl ?_)
                refine q_iload_n rfl rfl rfl ?_
                refine q_iadd rfl rfl (q_tn (z := 147) rfl ?_)
                refine q_lconst rfl rfl ?_
                refine q_last rfl rfl (by decide) rfl (by decide) ?_
                refine q_icc2 (z := 28) rfl rfl rfl rfl rfl ?_
                refine q_goto rfl ?_
                refine q_iload_n rfl rfl rfl ?_
                refine q_bipush rfl rfl ?_
                refine q_icge rfl rfl (fun c788 => absurd c788 (by decide)) (fun c788 => ?_)
                refine q_aload_n rfl rfl rfl ?_
                refine q_getf rfl rfl (by decide) (FW_46 S hW) rfl ?_
                refine q_bipush rfl rfl ?_
                refine q_iload_n rfl rfl rfl ?_
                refine q_imul rfl rfl (q_tn (z := 120) rfl ?_)
                refine q_iload_n rfl rfl rfl ?_
                refine q_iadd rfl rfl (q_tn (z := 148) rfl ?_)
                refine q_lconst rfl rfl ?_
                refine q_last rfl rfl (by decide) rfl (by decide) ?_
                refine q_icc2 (z := 29) rfl rfl rfl rfl rfl ?_
                refine q_goto rfl ?_
                refine q_iload_n rfl rfl rfl ?_
                refine q_bipush rfl rfl ?_
                refine q_icge rfl rfl (fun c789 => absurd c789 (by decide)) (fun c789 => ?_)
                refine q_aload_n rfl rfl rfl ?_
                refine q_getf rfl rfl (by decide) (FW_46 S hW) rfl ?_
                refine q_bipush rfl rfl ?_
                refine q_iload_n rfl rfl rfl ?_
                refine q_imul rfl rfl (q_tn (z := 120) rfl ?_)
                refine q_iload_n rfl rfl rfl ?_
                refine q_iadd rfl rfl (q_tn (z := 149) rfl ?_)
                refine q_lconst rfl rfl ?_
                refine q_last rfl rfl (by decide) rfl (by decide) ?_
                refine q_icc2 (z := 30) rfl rfl rfl rfl rfl ?_
                refine q_goto rfl ?_
                refine q_iload_n rfl rfl rfl ?_
                refine q_bipush rfl rfl ?_
                refine q_icge rfl rfl (fun c790 => absurd c790 (by decide)) (fun c790 => ?_)
                refine q_aload_n rfl rfl rfl ?_
                refine q_getf rfl rfl (by decide) (FW_46 S hW) rfl ?_
                refine q_bipush rfl rfl ?_
                refine q_iload_n rfl rfl rfl ?_
                refine q_imul rfl rfl (q_tn (z := 120) rfl ?_)
                refine q_iload_n rfl rfl rfl ?_
                refine q_iadd rfl rfl (q_tn (z := 150) rfl ?_)
                refine q_lconst rfl rfl ?_
                refine q_last rfl rfl (by decide) rfl (by decide) ?_
                refine q_icc2 (z := 31) rfl rfl rfl rfl rfl ?_
                refine q_goto rfl ?_
                refine q_iload_n rfl rfl rfl ?_
                refine q_bipush rfl rfl ?_
                refine q_icge rfl rfl (fun c791 => absurd c791 (by decide)) (fun c791 => ?_)
                refine q_aload_n rfl rfl rfl ?_
                refine q_getf rfl rfl (by decide) (FW_46 S hW) rfl ?_
                refine q_bipush rfl rfl ?_
                refine q_iload_n rfl rfl rfl ?_
                refine q_imul rfl rfl (q_tn (z := 120) rfl ?_)
                refine q_iload_n rfl rfl rfl ?_
                refine q_iadd rfl rfl (q_tn (z := 151) rfl ?_)
                refine q_lconst rfl rfl ?_
                refine q_last rfl rfl (by decide) rfl (by decide) ?_
                refine q_icc2 (z := 32) rfl rfl rfl rfl rfl ?_
                refine q_goto rfl ?_
                refine q_iload_n rfl rfl rfl ?_
                refine q_bipush rfl rfl ?_
                refine q_icge rfl rfl (fun c792 => absurd c792 (by decide)) (fun c792 => ?_)
                refine q_aload_n rfl rfl rfl ?_
                refine q_getf rfl rfl (by decide) (FW_46 S hW) rfl ?_
                refine q_bipush rfl rfl ?_
                refine q_iload_n rfl rfl rfl ?_
                refine q_imul rfl rfl (q_tn (z := 120) rfl ?_)
                refine q_iload_n rfl rfl rfl ?_
                refine q_iadd rfl rfl (q_tn (z := 152) rfl ?_)
                refine q_lconst rfl rfl ?_
                refine q_last rfl rfl (by decide) rfl (by decide) ?_
                refine q_icc2 (z := 33) rfl rfl rfl rfl rfl ?_
                refine q_goto rfl ?_
                refine q_iload_n rfl rfl rfl ?_
                refine q_bipush rfl rfl ?_
                refine q_icge rfl rfl (fun c793 => absurd c793 (by decide)) (fun c793 => ?_)
                refine q_aload_n rfl rfl rfl ?_
                refine q_getf rfl rfl (by decide) (FW_46 S hW) rfl ?_
                refine q_bipush rfl rfl ?_
                refine q_iload_n rfl rfl rfl ?_
                refine q_imul rfl rfl (q_tn (z := 120) rfl ?_)
                refine q_iload_n rfl rfl rfl ?_
                refine q_iadd rfl rfl (q_tn (z := 153) rfl ?_)
                refine q_lconst rfl rfl ?_
                refine q_last rfl rfl (by decide) rfl (by decide) ?_
                refine q_icc2 (z := 34) rfl rfl rfl rfl rfl ?_
                refine q_goto rfl ?_
                refine q_iload_n rfl rfl rfl ?_
                refine q_bipush rfl rfl ?_
                refine q_icge rfl rfl (fun c794 => absurd c794 (by decide)) (fun c794 => ?_)
                refine q_aload_n rfl rfl rfl ?_
                refine q_getf rfl rfl (by decide) (FW_46 S hW) rfl ?_
                refine q_bipush rfl rfl ?_
                refine q_iload_n rfl rfl rfl ?_
                refine q_imul rfl rfl (q_tn (z := 120) rfl ?_)
                refine q_iload_n rfl rfl rfl ?_
                refine q_iadd rfl rfl (q_tn (z := 154) rfl ?_)
                refine q_lconst rfl rfl ?_
                refine q_last rfl rfl (by decide) rfl (by decide) ?_
                refine q_icc2 (z := 35) rfl rfl rfl rfl rfl ?_
                refine q_goto rfl ?_
                refine q_iload_n rfl rfl rfl ?_
                refine q_bipush rfl rfl ?_
                refine q_icge rfl rfl (fun c795 => absurd c795 (by decide)) (fun c795 => ?_)
                refine q_aload_n rfl rfl rfl ?_
                refine q_getf rfl rfl (by decide) (FW_46 S hW) rfl ?_
                refine q_bipush rfl rfl ?_
                refine q_iload_n rfl rfl rfl ?_
                refine q_imul rfl rfl (q_tn (z := 120) rfl ?_)
                refine q_iload_n rfl rfl rfl ?_
                refine q_iadd rfl rfl (q_tn (z := 155) rfl ?_)
                refine q_lconst rfl rfl ?_
                refine q_last rfl rfl (by decide) rfl (by decide) ?_
                refine q_icc2 (z := 36) rfl rfl rfl rfl rfl ?_
                refine q_goto rfl ?_
                refine q_iload_n rfl rfl rfl ?_
                refine q_bipush rfl rfl ?_
                refine q_icge rfl rfl (fun c796 => absurd c796 (by decide)) (fun c796 => ?_)
                refine q_aload_n rfl rfl rfl ?_
                refine q_getf rfl rfl (by decide) (FW_46 S hW) rfl ?_
                refine q_bipush rfl rfl ?_
                refine q_iload_n rfl rfl rfl ?_
                refine q_imul rfl rfl (q_tn (z := 120) rfl ?_)
                refine q_iload_n rfl rfl rfl ?_
                refine q_iadd rfl rfl (q_tn (z := 156) rfl ?_)
                refine q_lconst rfl rfl ?_
                refine q_last rfl rfl (by decide) rfl (by decide) ?_
                refine q_icc2 (z := 37) rfl rfl rfl rfl rfl ?_
                refine q_goto rfl ?_
                refine q_iload_n rfl rfl rfl ?_
                refine q_bipush rfl rfl ?_
                refine q_icge rfl rfl (fun c797 => absurd c797 (by decide)) (fun c797 => ?_)
                refine q_aload_n rfl rfl rfl ?_
                refine q_getf rfl rfl (by decide) (FW_46 S hW) rfl ?_
                refine q_bipush rfl rfl ?_
                refine q_iload_n rfl rfl rfl ?_
                refine q_imul rfl rfl (q_tn (z := 120) rfl ?_)
                refine q_iload_n rfl rfl rfl ?_
                refine q_iadd rfl rfl (q_tn (z := 157) rfl ?_)
                refine q_lconst rfl rfl ?_
                refine q_last rfl rfl (by decide) rfl (by decide) ?_
                refine q_icc2 (z := 38) rfl rfl rfl rfl rfl ?_
                refine q_goto rfl ?_
                refine q_iload_n rfl rfl rfl ?_
                refine q_bipush rfl rfl ?_
                refine q_icge rfl rfl (fun c798 => absurd c798 (by decide)) (fun c798 => ?_)
                refine q_aload_n rfl rfl rfl ?_
                refine q_getf rfl rfl (by decide) (FW_46 S hW) rfl ?_
                refine q_bipush rfl rfl ?_
                refine q_iload_n rfl rfl rfl ?_
                refine q_imul rfl rfl (q_tn (z := 120) rfl ?_)
                refine q_iload_n rfl rfl rfl ?_
                refine q_iadd rfl rfl (q_tn (z := 158) rfl ?_)
                refine q_lconst rfl rfl ?_
                refine q_last rfl rfl (by decide) rfl (by decide) ?_
                refine q_icc2 (z := 39) rfl rfl rfl rfl rfl ?_
                refine q_goto rfl ?_
                refine q_iload_n rfl rfl rfl ?_
                refine q_bipush rfl rfl ?_
                refine q_icge rfl rfl (fun c799 => absurd c799 (by decide)) (fun c799 => ?_)
                refine q_aload_n rfl rfl rfl ?_
                refine q_getf rfl rfl (by decide) (FW_46 S hW) rfl ?_
                refine q_bipush rfl rfl ?_
                refine q_iload_n rfl rfl rfl ?_
                refine q_imul rfl rfl (q_tn (z := 120) rfl ?_)
                refine q_iload_n rfl rfl rfl ?_
                refine q_iadd rfl rfl (q_tn (z := 159) rfl ?_)
                refine q_lconst rfl rfl ?_
                refine q_last rfl rfl (by decide) rfl (by decide) ?_
                refine q_icc2 (z := 40) rfl rfl rfl rfl rfl ?_
                refine q_goto rfl ?_
                refine q_iload_n rfl rfl rfl ?_
                refine q_bipush rfl rfl ?_
                refine q_icge rfl rfl (fun c800 => absurd c800 (by decide)) (fun c800 => ?_)
                refine q_aload_n rfl rfl rfl ?_
                refine q_getf rfl rfl (by decide) (FW_46 S hW) rfl ?_
                refine q_bipush rfl rfl ?_
                refine q_iload_n rfl rfl rfl ?_
                refine q_imul rfl rfl (q_tn (z := 120) rfl ?_)
                refine q_iload_n rfl rfl rfl ?_
                refine q_iadd rfl rfl (q_tn (z := 160) rfl ?_)
                refine q_lconst rfl rfl ?_
                refine q_last rfl rfl (by decide) rfl (by decide) ?_
                refine q_icc2 (z := 41) rfl rfl rfl rfl rfl ?_
                refine q_goto rfl ?_
                refine q_iload_n rfl rfl rfl ?_
                refine q_bipush rfl rfl ?_
                refine q_icge rfl rfl (fun c801 => absurd c801 (by decide)) (fun c801 => ?_)
                refine q_aload_n rfl rfl rfl ?_
                refine q_getf rfl rfl (by decide) (FW_46 S hW) rfl ?_
                refine q_bipush rfl rfl ?_
                refine q_iload_n rfl rfl rfl ?_
                refine q_imul rfl rfl (q_tn (z := 120) rfl ?_)
                refine q_iload_n rfl rfl rfl ?_
                refine q_iadd rfl rfl (q_tn (z := 161) rfl ?_)
                refine q_lconst rfl rfl ?_
                refine q_last rfl rfl (by decide) rfl (by decide) ?_
                refine q_icc2 (z := 42) rfl rfl rfl rfl rfl ?_
                refine q_goto rfl ?_
                refine q_iload_n rfl rfl rfl ?_
                refine q_bipush rfl rfl ?_
                refine q_icge rfl rfl (fun c802 => absurd c802 (by decide)) (fun c802 => ?_)
                refine q_aload_n rfl rfl rfl ?_
                refine q_getf rfl rfl (by decide) (FW_46 S hW) rfl ?_
                refine q_bipush rfl rfl ?_
                refine q_iload_n rfl rfl rfl ?_
                refine q_imul rfl rfl (q_tn (z := 120) rfl ?_)
                refine q_iload_n rfl rfl rfl ?_
                refine q_iadd rfl rfl (q_tn (z := 162) rfl ?_)
                refine q_lconst rfl rfl ?_
                refine q_last rfl rfl (by decide) rfl (by decide) ?_
                refine q_icc2 (z := 43) rfl rfl rfl rfl rfl ?_
                refine q_goto rfl ?_
                refine q_iload_n rfl rfl rfl ?_
                refine q_bipush rfl rfl ?_
                refine q_icge rfl rfl (fun c803 => absurd c803 (by decide)) (fun c803 => ?_)
                refine q_aload_n rfl rfl rfl ?_
                refine q_getf rfl rfl (by decide) (FW_46 S hW) rfl ?_
                refine q_bipush rfl rfl ?_
                refine q_iload_n rfl rfl rfl ?_
                refine q_imul rfl rfl (q_tn (z := 120) rfl ?_)
                refine q_iload_n rfl rfl rfl ?_
                refine q_iadd rfl rfl (q_tn (z := 163) rfl ?_)
                refine q_lconst rfl rfl ?_
                refine q_last rfl rfl (by decide) rfl (by decide) ?_
                refine q_icc2 (z := 44) rfl rfl rfl rfl rfl ?_
                refine q_goto rfl ?_
                refine q_iload_n rfl rfl rfl ?_
                refine q_bipush rfl rfl ?_
                refine q_icge rfl rfl (fun c804 => absurd c804 (by decide)) (fun c804 => ?_)
                refine q_aload_n rfl rfl rfl ?_
                refine q_getf rfl rfl (by decide) (FW_46 S hW) rfl ?_
                refine q_bipush rfl rfl ?_
                refine q_iload_n rfl rfl rfl ?_
                refine q_imul rfl rfl (q_tn (z := 120) rfl ?_)
                refine q_iload_n rfl rfl rfl ?_
                refine q_iadd rfl rfl (q_tn (z := 164) rfl ?_)
                refine q_lconst rfl rfl ?_
                refine q_last rfl rfl (by decide) rfl (by decide) ?_
                refine q_icc2 (z := 45) rfl rfl rfl rfl rfl ?_
                refine q_goto rfl ?_
                refine q_iload_n rfl rfl rfl ?_
                refine q_bipush rfl rfl ?_
                refine q_icge rfl rfl (fun c805 => absurd c805 (by decide)) (fun c805 => ?_)
                refine q_aload_n rfl rfl rfl ?_
                refine q_getf rfl rfl (by decide) (FW_46 S hW) rfl ?_
                refine q_bipush rfl rfl ?_
                refine q_iload_n rfl rfl rfl ?_
                refine q_imul rfl rfl (q_tn (z := 120) rfl ?_)
                refine q_iload_n rfl rfl rfl ?_
                refine q_iadd rfl rfl (q_tn (z := 165) rfl ?_)
                refine q_lconst rfl rfl ?_
                refine q_last rfl rfl (by decide) rfl (by decide) ?_
                refine q_icc2 (z := 46) rfl rfl rfl rfl rfl ?_
                refine q_goto rfl ?_
                refine q_iload_n rfl rfl rfl ?_
                refine q_bipush rfl rfl ?_
                refine q_icge rfl rfl (fun c806 => absurd c806 (by decide)) (fun c806 => ?_)
                refine q_aload_n rfl rfl rfl ?_
                refine q_getf rfl rfl (by decide) (FW_46 S hW) rfl ?_
                refine q_bipush rfl rfl ?_
                refine q_iload_n rfl rfl rfl ?_
                refine q_imul rfl rfl (q_tn (z := 120) rfl ?_)
                refine q_iload_n rfl rfl rfl ?_
                refine q_iadd rfl rfl (q_tn (z := 166) rfl ?_)
                refine q_lconst rfl rfl ?_
                refine q_last rfl rfl (by decide) rfl (by decide) ?_
                refine q_icc2 (z := 47) rfl rfl rfl rfl rfl ?_
                refine q_goto rfl ?_
                refine q_iload_n rfl rfl rfl ?_
                refine q_bipush rfl rfl ?_
                refine q_icge rfl rfl (fun c807 => absurd c807 (by decide)) (fun c807 => ?_)
                refine q_aload_n rfl rfl rfl ?_
                refine q_getf rfl rfl (by decide) (FW_46 S hW) rfl ?_
                refine q_bipush rfl rfl ?_
                refine q_iload_n rfl rfl rfl ?_
                refine q_imul rfl rfl (q_tn (z := 120) rfl ?_)
                refine q_iload_n rfl rfl rfl ?_
                refine q_iadd rfl rfl (q_tn (z := 167) rfl ?_)
                refine q_lconst rfl rfl ?_
                refine q_last rfl rfl (by decide) rfl (by decide) ?_
                refine q_icc2 (z := 48) rfl rfl rfl rfl rfl ?_
                refine q_goto rfl ?_
                refine q_iload_n rfl rfl rfl ?_
                refine q_bipush rfl rfl ?_
                refine q_icge rfl rfl (fun c808 => absurd c808 (by decide)) (fun c808 => ?_)
                refine q_aload_n rfl rfl rfl ?_
                refine q_getf rfl rfl (by decide) (FW_46 S hW) rfl ?_
                refine q_bipush rfl rfl ?_
                refine q_iload_n rfl rfl rfl ?_
                refine q_imul rfl rfl (q_tn (z := 120) rfl ?_)
                refine q_iload_n rfl rfl rfl ?_
                refine q_iadd rfl rfl (q_tn (z := 168) rfl ?_)
                refine q_lconst rfl rfl ?_
                refine q_last rfl rfl (by decide) rfl (by decide) ?_
                refine q_icc2 (z := 49) rfl rfl rfl rfl rfl ?_
                refine q_goto rfl ?_
                refine q_iload_n rfl rfl rfl ?_
                refine q_bipush rfl rfl ?_
                refine q_icge rfl rfl (fun c809 => absurd c809 (by decide)) (fun c809 => ?_)
                refine q_aload_n rfl rfl rfl ?_
                refine q_getf rfl rfl (by decide) (FW_46 S hW) rfl ?_
                refine q_bipush rfl rfl ?_
                refine q_iload_n rfl rfl rfl ?_
                refine q_imul rfl rfl (q_tn (z := 120) rfl ?_)
                refine q_iload_n rfl rfl rfl ?_
                refine q_iadd rfl rfl (q_tn (z := 169) rfl ?_)
                refine q_lconst rfl rfl ?_
                refine q_last rfl rfl (by decide) rfl (by decide) ?_
                refine q_icc2 (z := 50) rfl rfl rfl rfl rfl ?_
                refine q_goto rfl ?_
                refine q_iload_n rfl rfl rfl ?_
                refine q_bipush rfl rfl ?_
                refine q_icge rfl rfl (fun c810 => absurd c810 (by decide)) (fun c810 => ?_)
                refine q_aload_n rfl rfl rfl ?_
                refine q_getf rfl rfl (by decide) (FW_46 S hW) rfl ?_
                refine q_bipush rfl rfl ?_
                refine q_iload_n rfl rfl rfl ?_
                refine q_imul rfl rfl (q_tn (z := 120) rfl ?_)
                refine q_iload_n rfl rfl rfl ?_
                refine q_iadd rfl rfl (q_tn (z := 170) rfl ?_)
                refine q_lconst rfl rfl ?_
                refine q_last rfl rfl (by decide) rfl (by decide) ?_
                refine q_icc2 (z := 51) rfl rfl rfl rfl rfl ?_
                refine q_goto rfl ?_
                refine q_iload_n rfl rfl rfl ?_
                refine q_bipush rfl rfl ?_
                refine q_icge rfl rfl (fun c811 => absurd c811 (by decide)) (fun c811 => ?_)
                refine q_aload_n rfl rfl rfl ?_
                refine q_getf rfl rfl (by decide) (FW_46 S hW) rfl ?_
                refine q_bipush rfl rfl ?_
                refine q_iload_n rfl rfl rfl ?_
                refine q_imul rfl rfl (q_tn (z := 120) rfl ?_)
                refine q_iload_n rfl rfl rfl ?_
                refine q_iadd rfl rfl (q_tn (z := 171) rfl ?_)
                refine q_lconst rfl rfl ?_
                refine q_last rfl rfl (by decide) rfl (by decide) ?_
                refine q_icc2 (z := 52) rfl rfl rfl rfl rfl ?_
                refine q_goto rfl ?_
                refine q_iload_n rfl rfl rfl ?_
                refine q_bipush rfl rfl ?_
                refine q_icge rfl rfl (fun c812 => absurd c812 (by decide)) (fun c812 => ?_)
                refine q_aload_n rfl rfl rfl ?_
                refine q_getf rfl rfl (by decide) (FW_46 S hW) rfl ?_
                refine q_bipush rfl rfl ?_
                refine q_iload_n rfl rfl rfl ?_
                refine q_imul rfl rfl (q_tn (z := 120) rfl ?_)
                refine q_iload_n rfl rfl rfl ?_
                refine q_iadd rfl rfl (q_tn (z := 172) rfl ?_)
                refine q_lconst rfl rfl ?_
                refine q_last rfl rfl (by decide) rfl (by decide) ?_
                refine q_icc2 (z := 53) rfl rfl rfl rfl rfl ?_
                refine q_goto rfl ?_
                refine q_iload_n rfl rfl rfl ?_
                refine q_bipush rfl rfl ?_
                refine q_icge rfl rfl (fun c813 => absurd c813 (by decide)) (fun c813 => ?_)
                refine q_aload_n rfl rfl rfl ?_
                refine q_getf rfl rfl (by decide) (FW_46 S hW) rfl ?_
                refine q_bipush rfl rfl ?_
                refine q_iload_n rfl rfl rfl ?_
                refine q_imul rfl rfl (q_tn (z := 120) rfl ?_)
                refine q_iload_n rfl rfl rfl ?_
                refine q_iadd rfl rfl (q_tn (z := 173) rfl ?_)
                refine q_lconst rfl rfl ?_
                refine q_last rfl rfl (by decide) rfl (by decide) ?_
                refine q_icc2 (z := 54) rfl rfl rfl rfl rfl ?_
                refine q_goto rfl ?_
                refine q_iload_n rfl rfl rfl ?_
                refine q_bipush rfl rfl ?_
                refine q_icge rfl rfl (fun c814 => absurd c814 (by decide)) (fun c814 => ?_)
                refine q_aload_n rfl rfl rfl ?_
                refine q_getf rfl rfl (by decide) (FW_46 S hW) rfl ?_
                refine q_bipush rfl rfl ?_
                refine q_iload_n rfl rfl rfl ?_
                refine q_imul rfl rfl (q_tn (z := 120) rfl ?_)
                refine q_iload_n rfl rfl rfl ?_
                refine q_iadd rfl rfl (q_tn (z := 174) rfl ?_)
                refine q_lconst rfl rfl ?_
                refine q_last rfl rfl (by decide) rfl (by decide) ?_
                refine q_icc2 (z := 55) rfl rfl rfl rfl rfl ?_
                refine q_goto rfl ?_
                refine q_iload_n rfl rfl rfl ?_
                refine q_bipush rfl rfl ?_
                refine q_icge rfl rfl (fun c815 => absurd c815 (by decide)) (fun c815 => ?_)
                refine q_aload_n rfl rfl rfl ?_
                refine q_getf rfl rfl (by decide) (FW_46 S hW) rfl ?_
                refine q_bipush rfl rfl ?_
                refine q_iload_n rfl rfl rfl ?_
                refine q_imul rfl rfl (q_tn (z := 120) rfl ?_)
                refine q_iload_n rfl rfl rfl ?_
                refine q_iadd rfl rfl (q_tn (z := 175) rfl ?_)
                refine q_lconst rfl rfl ?_
                refine q_last rfl rfl (by decide) rfl (by decide) ?_
                refine q_icc2 (z := 56) rfl rfl rfl rfl rfl ?_
                refine q_goto rfl ?_
                refine q_iload_n rfl rfl rfl ?_
                refine q_bipush rfl rfl ?_
                refine q_icge rfl rfl (fun c816 => absurd c816 (by decide)) (fun c816 => ?_)
                refine q_aload_n rfl rfl rfl ?_
                refine q_getf rfl rfl (by decide) (FW_46 S hW) rfl ?_
                refine q_bipush rfl rfl ?_
                refine q_iload_n rfl rfl rfl ?_
                refine q_imul rfl rfl (q_tn (z := 120) rfl ?_)
                refine q_iload_n rfl rfl rfl ?_
                refine q_iadd rfl rfl (q_tn (z := 176) rfl ?_)
                refine q_lconst rfl rfl ?_
                refine q_last rfl rfl (by decide) rfl (by decide) ?_
                refine q_icc2 (z := 57) rfl rfl rfl rfl rfl ?_
                refine q_goto rfl ?_
                refine q_iload_n rfl rfl rfl ?_
                refine q_bipush rfl rfl ?_
                refine q_icge rfl rfl (fun c817 => absurd c817 (by decide)) (fun c817 => ?_)
                refine q_aload_n rfl rfl rfl ?_
                refine q_getf rfl rfl (by decide) (FW_46 S hW) rfl ?_
                refine q_bipush rfl rfl ?_
                refine q_iload_n rfl rfl rfl ?_
                refine q_imul rfl rfl (q_tn (z := 120) rfl ?_)
                refine q_iload_n rfl rfl rfl ?_
                refine q_iadd rfl rfl (q_tn (z := 177) rfl ?_)
                refine q_lconst rfl rfl ?_
                refine q_last rfl rfl (by decide) rfl (by decide) ?_
                refine q_icc2 (z := 58) rfl rfl rfl rfl rfl ?_
                refine q_goto rfl ?_
                refine q_iload_n rfl rfl rfl ?_
                refine q_bipush rfl rfl ?_
                refine q_icge rfl rfl (fun c818 => absurd c818 (by decide)) (fun c818 => ?_)
                refine q_aload_n rfl rfl rfl ?_
                refine q_getf rfl rfl (by decide) (FW_46 S hW) rfl ?_
                refine q_bipush rfl rfl ?_
                refine q_iload_n rfl rfl rfl ?_
                refine q_imul rfl rfl (q_tn (z := 120) rfl ?_)
                refine q_iload_n rfl rfl rfl ?_
                refine q_iadd rfl rfl (q_tn (z := 178) rfl ?_)
                refine q_lconst rfl rfl ?_
                refine q_last rfl rfl (by decide) rfl (by decide) ?_
                refine q_icc2 (z := 59) rfl rfl rfl rfl rfl ?_
                refine q_goto rfl ?_
                refine q_iload_n rfl rfl rfl ?_
                refine q_bipush rfl rfl ?_
                refine q_icge rfl rfl (fun c819 => absurd c819 (by decide)) (fun c819 => ?_)
                refine q_aload_n rfl rfl rfl ?_
                refine q_getf rfl rfl (by decide) (FW_46 S hW) rfl ?_
                refine q_bipush rfl rfl ?_
                refine q_iload_n rfl rfl rfl ?_
                refine q_imul rfl rfl (q_tn (z := 120) rfl ?_)
                refine q_iload_n rfl rfl rfl ?_
                refine q_iadd rfl rfl (q_tn (z := 179) rfl ?_)
                refine q_lconst rfl rfl ?_
                refine q_last rfl rfl (by decide) rfl (by decide) ?_
                refine q_icc2 (z := 60) rfl rfl rfl rfl rfl ?_
                refine q_goto rfl ?_
                refine q_iload_n rfl rfl rfl ?_
                refine q_bipush rfl rfl ?_
                refine q_icge rfl rfl (fun c820 => ?_) (fun c820 => absurd (by decide) c820)
                refine q_ret rfl rfl ?_
                refine ⟨rfl, ?_⟩
                refine q_iconst rfl rfl ?_
                refine q_iret rfl rfl trivial ?_
                refine ⟨_, rfl, ?_⟩
                refine q_iceq rfl rfl (fun c821 => ?_) (fun c821 => absurd (by decide) c821)
                refine q_icc4 (z := 6) rfl rfl rfl rfl rfl ?_
                refine q_goto rfl ?_
                refine q_iload rfl rfl rfl ?_
                refine q_aload_nF rfl rfl rfl ?_
                refine q_alenX (x := 6) rfl rfl rfl ?_
                refine q_bipush rfl rfl ?_
                refine q_isub rfl rfl (q_tn (z := 0) rfl ?_)
                refine q_icgt rfl rfl (fun c822 => ?_) (fun c822 => absurd (by decide) c822)
                refine q_iconst rfl rfl ?_
                refine q_iret rfl rfl rfl ?_
                exact hK _ _
              · refine q_aast rfl rfl (by decide) (by decide) (FW_43 S hW) rfl rfl (by decide) ?_
                refine q_iconst rfl rfl ?_
                refine q_iret rfl rfl trivial ?_
                refine ⟨_, rfl, ?_⟩
                refine q_aload_n rfl rfl rfl ?_
                refine q_aload_nF rfl rfl rfl ?_
                refine q_iload rfl rfl rfl ?_
                refine q_iconst rfl rfl ?_
                refine q_iadd rfl rfl (q_tn (z := 1) rfl ?_)
                refine q_ialdX (x := 3) rfl rfl rfl hx1 ?_
                refine q_aload_nF rfl rfl rfl ?_
                refine q_iload rfl rfl rfl ?_
                refine q_iconst rfl rfl ?_
                refine q_iadd rfl rfl (q_tn (z := 2) rfl ?_)
                refine q_ialdX (x := 4) rfl rfl rfl hx2 ?_
                refine q_aload_nF rfl rfl rfl ?_
                refine q_iload rfl rfl rfl ?_
                refine q_iconst rfl rfl ?_
                refine q_iadd rfl rfl (q_tn (z := 3) rfl ?_)
                refine q_ialdX (x := x3) rfl rfl rfl hx3 ?_
                refine q_nV3 rfl rfl (Or.inl rfl) rfl rfl rfl (by decide) (FW_46 S hW) ⟨rfl, rfl⟩ rfl ?_
                change PQ _ _ _ mm_X12_make 0 [.ref 46, .int 3, .int 4, .int x3] [] _ _ 0 0 _
                refine q_aload_n rfl rfl rfl ?_
                refine q_iload_n rfl rfl rfl ?_
                refine q_nV1 rfl rfl (Or.inl rfl) rfl rfl rfl (by decide) (FW_46 S hW) ⟨rfl, rfl⟩ rfl ?_
                change PQ _ _ _ mm_X12_isShelf 0 [.ref 46, .int 3] [] _ _ 0 0 _
                refine q_aload_n rfl rfl rfl ?_
                refine q_iload_n rfl rfl rfl ?_
                refine q_iconst rfl rfl ?_
                refine q_bipush rfl rfl ?_
                refine q_nV3 rfl rfl (Or.inl rfl) rfl rfl rfl (by decide) (FW_46 S hW) ⟨rfl, rfl⟩ rfl ?_
                change PQ _ _ _ mm_X12_in 0 [.ref 46, .int 3, .int 0, .int 7] [] _ _ 0 0 _
                refine q_iload_n rfl rfl rfl ?_
                refine q_iload_n rfl rfl rfl ?_
                refine q_iclt rfl rfl (fun c823 => absurd c823 (by decide)) (fun c823 => ?_)
                refine q_iload_n rfl rfl rfl ?_
                refine q_iload_n rfl rfl rfl ?_
                refine q_icgt rfl rfl (fun c824 => absurd c824 (by decide)) (fun c824 => ?_)
                refine q_iconst rfl rfl ?_
                refine q_goto rfl ?_
                refine q_iret rfl rfl rfl ?_
                refine ⟨_, rfl, ?_⟩
                refine q_iret rfl rfl rfl ?_
                refine ⟨_, rfl, ?_⟩
                refine q_ifeq rfl rfl (fun c825 => absurd c825 (by decide)) (fun c825 => ?_)
                refine q_aload_n rfl rfl rfl ?_
                refine q_iload_n rfl rfl rfl ?_
                refine q_iconst rfl rfl ?_
                refine q_iconst rfl rfl ?_
                refine q_nV3 rfl rfl (Or.inl rfl) rfl rfl rfl (by decide) (FW_46 S hW) ⟨rfl, rfl⟩ rfl ?_
                change PQ _ _ _ mm_X12_in 0 [.ref 46, .int 4, .int 3, .int 4] [] _ _ 0 0 _
                refine q_iload_n rfl rfl rfl ?_
                refine q_iload_n rfl rfl rfl ?_
                refine q_iclt rfl rfl (fun c826 => absurd c826 (by decide)) (fun c826 => ?_)
                refine q_iload_n rfl rfl rfl ?_
                refine q_iload_n rfl rfl rfl ?_
                refine q_icgt rfl rfl (fun c827 => absurd c827 (by decide)) (fun c827 => ?_)
                refine q_iconst rfl rfl ?_
                refine q_goto rfl ?_
                refine q_iret rfl rfl rfl ?_
                refine ⟨_, rfl, ?_⟩
                refine q_ifeq rfl rfl (fun c828 => absurd c828 (by decide)) (fun c828 => ?_)
                refine q_iload_n rfl rfl rfl ?_
                refine q_bipush rfl rfl ?_
                refine q_icle rfl rfl (fun c829 => ?_) (fun c829 => absurd (i_le_t c607 rfl) c829)
                refine q_iload_n rfl rfl rfl ?_
                refine q_ifge rfl rfl (fun c830 => ?_) (fun c830 => absurd (i_ge_t c608 rfl) c830)
                refine q_aload_n rfl rfl rfl ?_
                refine q_getf rfl rfl (by decide) (FW_46 S hW) rfl ?_
                refine q_iload_n rfl rfl rfl ?_
                refine q_iload_n rfl rfl rfl ?_
                refine q_iast rfl rfl (by decide) (FW_75 S hW) (by decide) ?_
                refine q_aload_n rfl rfl rfl ?_
                refine q_getf rfl rfl (by decide) (FW_46 S hW) rfl ?_
                refine q_iload_n rfl rfl rfl ?_
                refine q_iload_n rfl rfl rfl ?_
                refine q_iast rfl rfl (by decide) (FW_78 S hW) (by decide) ?_
                refine q_aload_n rfl rfl rfl ?_
                refine q_iload_n rfl rfl rfl ?_
                refine q_nV1v rfl rfl (Or.inl rfl) rfl rfl rfl (by decide) (FW_46 S hW) ⟨rfl, rfl⟩ rfl ?_
                change PQ _ _ _ mm_X12_clear 0 [.ref 46, .int 3, pm_un] [] _ _ 0 0 _
                refine q_iconst rfl rfl ?_
                refine q_ist2n rfl rfl rfl rfl ?_
                refine q_iload_n rfl rfl rfl ?_
                refine q_bipush rfl rfl ?_
                refine q_icge rfl rfl (fun c831 => absurd c831 (by decide)) (fun c831 => ?_)
                refine q_aload_n rfl rfl rfl ?_
                refine q_getf rfl rfl (by decide) (FW_46 S hW) rfl ?_
                refine q_bipush rfl rfl ?_
                refine q_iload_n rfl rfl rfl ?_
                refine q_imul rfl rfl (q_tn (z := 180) rfl ?_)
                refine q_iload_n rfl rfl rfl ?_
                refine q_iadd rfl rfl (q_tn (z := 180) rfl ?_)
                refine q_lconst rfl rfl ?_
                refine q_last rfl rfl (by decide) (FW_79 S hW) (by decide) ?_
                refine q_icc2 (z := 1) rfl rfl rfl rfl rfl ?_
                refine q_goto rfl ?_
                refine q_iload_n rfl rfl rfl ?_
                refine q_bipush rfl rfl ?_
                refine q_icge rfl rfl (fun c832 => absurd c832 (by decide)) (fun c832 => ?_)
                refine q_aload_n rfl rfl rfl ?_
                refine q_getf rfl rfl (by decide) (FW_46 S hW) rfl ?_
                refine q_bipush rfl rfl ?_
                refine q_iload_n rfl rfl rfl ?_
                refine q_imul rfl rfl (q_tn (z := 180) rfl ?_)
                refine q_iload_n rfl rfl rfl ?_
                refine q_iadd rfl rfl (q_tn (z := 181) rfl ?_)
                refine q_lconst rfl rfl ?_
                refine q_last rfl rfl (by decide) rfl (by decide) ?_
                refine q_icc2 (z := 2) rfl rfl rfl rfl rfl ?_
                refine q_goto rfl ?_
                refine q_iload_n rfl rfl rfl ?_
                refine q_bipush rfl rfl ?_
                refine q_icge rfl rfl (fun c833 => absurd c833 (by decide)) (fun c833 => ?_)
                refine q_aload_n rfl rfl rfl ?_
                refine q_getf rfl rfl (by decide) (FW_46 S hW) rfl ?_
                refine q_bipush rfl rfl ?_
                refine q_iload_n rfl rfl rfl ?_
                refine q_imul rfl rfl (q_tn (z := 180) rfl ?_)
                refine q_iload_n rfl rfl rfl ?_
                refine q_iadd rfl rfl (q_tn (z := 182) rfl ?_)
                refine q_lconst rfl rfl ?_
                refine q_last rfl rfl (by decide) rfl (by decide) ?_
                refine q_icc2 (z := 3) rfl rfl rfl rfl rfl ?_
                refine q_goto rfl ?_
                refine q_iload_n rfl rfl rfl ?_
                refine q_bipush rfl rfl ?_
                refine q_icge rfl rfl (fun c834 => absurd c834 (by decide)) (fun c834 => ?_)
                refine q_aload_n rfl rfl rfl ?_
                refine q_getf rfl rfl (by decide) (FW_46 S hW) rfl ?_
                refine q_bipush rfl rfl ?_
                refine q_iload_n rfl rfl rfl ?_
                refine q_imul rfl rfl (q_tn (z := 180) rfl ?_)
                refine q_iload_n rfl rfl rfl ?_
                refine q_iadd rfl rfl (q_tn (z := 183) rfl ?_)
                refine q_lconst rfl rfl ?_
                refine q_last rfl rfl (by decide) rfl (by decide) ?_
                refine q_icc2 (z := 4) rfl rfl rfl rfl rfl ?_
                refine q_goto rfl ?_
                refine q_iload_n rfl rfl rfl ?_
                refine q_bipush rfl rfl ?_
                refine q_icge rfl rfl (fun c835 => absurd c835 (by decide)) (fun c835 => ?_)
                refine q_aload_n rfl rfl rfl ?_
                refine q_getf rfl rfl (by decide) (FW_46 S hW) rfl ?_
                refine q_bipush rfl rfl ?_
                refine q_iload_n rfl rfl rfl ?_
                refine q_imul rfl rfl (q_tn (z := 180) rfl ?_)
                refine q_iload_n rfl rfl rfl ?_
                refine q_iadd rfl rfl (q_tn (z := 184) rfl ?_)
                refine q_lconst rfl rfl ?_
                refine q_last rfl rfl (by decide) rfl (by decide) ?_
                refine q_icc2 (z := 5) rfl rfl rfl rfl rfl ?_
                refine q_goto rfl ?_
                refine q_iload_n rfl rfl rfl ?_
                refine q_bipush rfl rfl ?_
                refine q_icge rfl rfl (fun c836 => absurd c836 (by decide)) (fun c836 => ?_)
                refine q_aload_n rfl rfl rfl ?_
                refine q_getf rfl rfl (by decide) (FW_46 S hW) rfl ?_
                refine q_bipush rfl rfl ?_
                refine q_iload_n rfl rfl rfl ?_
                refine q_imul rfl rfl (q_tn (z := 180) rfl ?_)
                refine q_iload_n rfl rfl rfl ?_
                refine q_iadd rfl rfl (q_tn (z := 185) rfl ?_)
                refine q_lconst rfl rfl ?_
                refine q_last rfl rfl (by decide) rfl (by decide) ?_
                refine q_icc2 (z := 6) rfl rfl rfl rfl rfl ?_
                refine q_goto rfl ?_
                refine q_iload_n rfl rfl rfl ?_
                refine q_bipush rfl rfl ?_
                refine q_icge rfl rfl (fun c837 => absurd c837 (by decide)) (fun c837 => ?_)
                refine q_aload_n rfl rfl rfl ?_
                refine q_getf rfl rfl (by decide) (FW_46 S hW) rfl ?_
                refine q_bipush rfl rfl ?_
                refine q_iload_n rfl rfl rfl ?_
                refine q_imul rfl rfl (q_tn (z := 180) rfl ?_)
                refine q_iload_n rfl rfl rfl ?_
                refine q_iadd rfl rfl (q_tn (z := 186) rfl ?_)
                refine q_lconst rfl rfl ?_
                refine q_last rfl rfl (by decide) rfl (by decide) ?_
                refine q_icc2 (z := 7) rfl rfl rfl rfl rfl ?_
                refine q_goto rfl ?_
                refine q_iload_n rfl rfl rfl ?_
                refine q_bipush rfl rfl ?_
                refine q_icge rfl rfl (fun c838 => absurd c838 (by decide)) (fun c838 => ?_)
                refine q_aload_n rfl rfl rfl ?_
                refine q_getf rfl rfl (by decide) (FW_46 S hW) rfl ?_
                refine q_bipush rfl rfl ?_
                refine q_iload_n rfl rfl rfl ?_
                refine q_imul rfl rfl (q_tn (z := 180) rfl ?_)
                refine q_iload_n rfl rfl rfl ?_
                refine q_iadd rfl rfl (q_tn (z := 187) rfl ?_)
                refine q_lconst rfl rfl ?_
                refine q_last rfl rfl (by decide) rfl (by decide) ?_
                refine q_icc2 (z := 8) rfl rfl rfl rfl rfl ?_
                refine q_goto rfl ?_
                refine q_iload_n rfl rfl rfl ?_
                refine q_bipush rfl rfl ?_
                refine q_icge rfl rfl (fun c839 => absurd c839 (by decide)) (fun c839 => ?_)
                refine q_aload_n rfl rfl rfl ?_
                refine q_getf rfl rfl (by decide) (FW_46 S hW) rfl ?_
                refine q_bipush rfl rfl ?_
                refine q_iload_n rfl rfl rfl ?_
                refine q_imul rfl rfl (q_tn (z := 180) rfl ?_)
                refine q_iload_n rfl rfl rfl ?_
                refine q_iadd rfl rfl (q_tn (z := 188) rfl ?_)
                refine q_lconst rfl rfl ?_
                refine q_last rfl rfl (by decide) rfl (by decide) ?_
                refine q_icc2 (z := 9) rfl rfl rfl rfl rfl ?_
                refine q_goto rfl ?_
                refine q_iload_n rfl rfl rfl ?_
                refine q_bipush rfl rfl ?_
                refine q_icge rfl rfl (fun c840 => absurd c840 (by decide)) (fun c840 => ?_)
                refine q_aload_n rfl rfl rfl ?_
                refine q_getf rfl rfl (by decide) (FW_46 S hW) rfl ?_
                refine q_bipush rfl rfl ?_
                refine q_iload_n rfl rfl rfl ?_
                refine q_imul rfl rfl (q_tn (z := 180) rfl ?_)
                refine q_iload_n rfl rfl rfl ?_
                refine q_iadd rfl rfl (q_tn (z := 189) rfl ?_)
                refine q_lconst rfl rfl ?_
                refine q_last rfl rfl (by decide) rfl (by decide) ?_
                refine q_icc2 (z := 10) rfl rfl rfl rfl rfl ?_
                refine q_goto rfl ?_
                refine q_iload_n rfl rfl rfl ?_
                refine q_bipush rfl rfl ?_
                refine q_icge rfl rfl (fun c841 => absurd c841 (by decide)) (fun c841 => ?_)
                refine q_aload_n rfl rfl rfl ?_
                refine q_getf rfl rfl (by decide) (FW_46 S hW) rfl ?_
                refine q_bipush rfl rfl ?_
                refine q_iload_n rfl rfl rfl ?_
                refine q_imul rfl rfl (q_tn (z := 180) rfl ?_)
                refine q_iload_n rfl rfl rfl ?_
                refine q_iadd rfl rfl (q_tn (z := 190) rfl ?_)
                refine q_lconst rfl rfl ?_
                refine q_last rfl rfl (by decide) rfl (by decide) ?_
                refine q_icc2 (z := 11) rfl rfl rfl rfl rfl ?_
                refine q_goto rfl ?_
                refine q_iload_n rfl rfl rfl ?_
                refine q_bipush rfl rfl ?_
                refine q_icge rfl rfl (fun c842 => absurd c842 (by decide)) (fun c842 => ?_)
                refine q_aload_n rfl rfl rfl ?_
                refine q_getf rfl rfl (by decide) (FW_46 S hW) rfl ?_
                refine q_bipush rfl rfl ?_
                refine q_iload_n rfl rfl rfl ?_
                refine q_imul rfl rfl (q_tn (z := 180) rfl ?_)
                refine q_iload_n rfl rfl rfl ?_
                refine q_iadd rfl rfl (q_tn (z := 191) rfl ?_)
                refine q_lconst rfl rfl ?_
                refine q_last rfl rfl (by decide) rfl (by decide) ?_
                refine q_icc2 (z := 12) rfl rfl rfl rfl rfl ?_
                refine q_goto rfl ?_
                refine q_iload_n rfl rfl rfl ?_
                refine q_bipush rfl rfl ?_
                refine q_icge rfl rfl (fun c843 => absurd c843 (by decide)) (fun c843 => ?_)
                refine q_aload_n rfl rfl rfl ?_
                refine q_getf rfl rfl (by decide) (FW_46 S hW) rfl ?_
                refine q_bipush rfl rfl ?_
                refine q_iload_n rfl rfl rfl ?_
                refine q_imul rfl rfl (q_tn (z := 180) rfl ?_)
                refine q_iload_n rfl rfl rfl ?_
                refine q_iadd rfl rfl (q_tn (z := 192) rfl ?_)
                refine q_lconst rfl rfl ?_
                refine q_last rfl rfl (by decide) rfl (by decide) ?_
                refine q_icc2 (z := 13) rfl rfl rfl rfl rfl ?_
                refine q_goto rfl ?_
                refine q_iload_n rfl rfl rfl ?_
                refine q_bipush rfl rfl ?_
                refine q_icge rfl rfl (fun c844 => absurd c844 (by decide)) (fun c844 => ?_)
                refine q_aload_n rfl rfl rfl ?_
                refine q_getf rfl rfl (by decide) (FW_46 S hW) rfl ?_
                refine q_bipush rfl rfl ?_
                refine q_iload_n rfl rfl rfl ?_
                refine q_imul rfl rfl (q_tn (z := 180) rfl ?_)
                refine q_iload_n rfl rfl rfl ?_
                refine q_iadd rfl rfl (q_tn (z := 193) rfl ?_)
                refine q_lconst rfl rfl ?_
                refine q_last rfl rfl (by decide) rfl (by decide) ?_
                refine q_icc2 (z := 14) rfl rfl rfl rfl rfl ?_
                refine q_goto rfl ?_
                refine q_iload_n rfl rfl rfl ?_
                refine q_bipush rfl rfl ?_
                refine q_icge rfl rfl (fun c845 => absurd c845 (by decide)) (fun c845 => ?_)
                refine q_aload_n rfl rfl rfl ?_
                refine q_getf rfl rfl (by decide) (FW_46 S hW) rfl ?_
                refine q_bipush rfl rfl ?_
                refine q_iload_n rfl rfl rfl ?_
                refine q_imul rfl rfl (q_tn (z := 180) rfl ?_)
                refine q_iload_n rfl rfl rfl ?_
                refine q_iadd rfl rfl (q_tn (z := 194) rfl ?_)
                refine q_lconst rfl rfl ?_
                refine q_last rfl rfl (by decide) rfl (by decide) ?_
                refine q_icc2 (z := 15) rfl rfl rfl rfl rfl ?_
                refine q_goto rfl ?_
                refine q_iload_n rfl rfl rfl ?_
                refine q_bipush rfl rfl ?_
                refine q_icge rfl rfl (fun c846 => absurd c846 (by decide)) (fun c846 => ?_)
                refine q_aload_n rfl rfl rfl ?_
                refine q_getf rfl rfl (by decide) (FW_46 S hW) rfl ?_
                refine q_bipush rfl rfl ?_
                refine q_iload_n rfl rfl rfl ?_
                refine q_imul rfl rfl (q_tn (z := 180) rfl ?_)
                refine q_iload_n rfl rfl rfl ?_
                refine q_iadd rfl rfl (q_tn (z := 195) rfl ?_)
                refine q_lconst rfl rfl ?_
                refine q_last rfl rfl (by decide) rfl (by decide) ?_
                refine q_icc2 (z := 16) rfl rfl rfl rfl rfl ?_
                refine q_goto rfl ?_
                refine q_iload_n rfl rfl rfl ?_
                refine q_bipush rfl rfl ?_
                refine q_icge rfl rfl (fun c847 => absurd c847 (by decide)) (fun c847 => ?_)
                refine q_aload_n rfl rfl rfl ?_
                refine q_getf rfl rfl (by decide) (FW_46 S hW) rfl ?_
                refine q_bipush rfl rfl ?_
                refine q_iload_n rfl rfl rfl ?_
                refine q_imul rfl rfl (q_tn (z := 180) rfl ?_)
                refine q_iload_n rfl rfl rfl ?_
                refine q_iadd rfl rfl (q_tn (z := 196) rfl ?_)
                refine q_lconst rfl rfl ?_
                refine q_last rfl rfl (by decide) rfl (by decide) ?_
                refine q_icc2 (z := 17) rfl rfl rfl rfl rfl ?_
                refine q_goto rfl ?_
                refine q_iload_n rfl rfl rfl ?_
                refine q_bipush rfl rfl ?_
                refine q_icge rfl rfl (fun c848 => absurd c848 (by decide)) (fun c848 => ?_)
                refine q_aload_n rfl rfl rfl ?_
                refine q_getf rfl rfl (by decide) (FW_46 S hW) rfl ?_
                refine q_bipush rfl rfl ?_
                refine q_iload_n rfl rfl rfl ?_
                refine q_imul rfl rfl (q_tn (z := 180) rfl ?_)
                refine q_iload_n rfl rfl rfl ?_
                refine q_iadd rfl rfl (q_tn (z := 197) rfl ?_)
                refine q_lconst rfl rfl ?_
                refine q_last rfl rfl (by decide) rfl (by decide) ?_
                refine q_icc2 (z := 18) rfl rfl rfl rfl rfl ?_
                refine q_goto rfl ?_
                refine q_iload_n rfl rfl rfl ?_
                refine q_bipush rfl rfl ?_
                refine q_icge rfl rfl (fun c849 => absurd c849 (by decide)) (fun c849 => ?_)
                refine q_aload_n rfl rfl rfl ?_
                refine q_getf rfl rfl (by decide) (FW_46 S hW) rfl ?_
                refine q_bipush rfl rfl ?_
                refine q_iload_n rfl rfl rfl ?_
                refine q_imul rfl rfl (q_tn (z := 180) rfl ?_)
                refine q_iload_n rfl rfl rfl ?_
                refine q_iadd rfl rfl (q_tn (z := 198) rfl ?_)
                refine q_lconst rfl rfl ?_
                refine q_last rfl rfl (by decide) rfl (by decide) ?_
                refine q_icc2 (z := 19) rfl rfl rfl rfl rfl ?_
                refine q_goto rfl ?_
                refine q_iload_n rfl rfl rfl ?_
                refine q_bipush rfl rfl ?_
                refine q_icge rfl rfl (fun c850 => absurd c850 (by decide)) (fun c850 => ?_)
                refine q_aload_n rfl rfl rfl ?_
                refine q_getf rfl rfl (by decide) (FW_46 S hW) rfl ?_
                refine q_bipush rfl rfl ?_
                refine q_iload_n rfl rfl rfl ?_
                refine q_imul rfl rfl (q_tn (z := 180) rfl ?_)
                refine q_iload_n rfl rfl rfl ?_
                refine q_iadd rfl rfl (q_tn (z := 199) rfl ?_)
                refine q_lconst rfl rfl ?_
                refine q_last rfl rfl (by decide) rfl (by decide) ?_
                refine q_icc2 (z := 20) rfl rfl rfl rfl rfl ?_
                refine q_goto rfl ?_
                refine q_iload_n rfl rfl rfl ?_
                refine q_bipush rfl rfl ?_
                refine q_icge rfl rfl (fun c851 => absurd c851 (by decide)) (fun c851 => ?_)
                refine q_aload_n rfl rfl rfl ?_
                refine q_getf rfl rfl (by decide) (FW_46 S hW) rfl ?_
                refine q_bipush rfl rfl ?_
                refine q_iload_n rfl rfl rfl ?_
                refine q_imul rfl rfl (q_tn (z := 180) rfl ?_)
                refine q_iload_n rfl rfl rfl ?_
                refine q_iadd rfl rfl (q_tn (z := 200) rfl ?_)
                refine q_lconst rfl rfl ?_
                refine q_last rfl rfl (by decide) rfl (by decide) ?_
                refine q_icc2 (z := 21) rfl rfl rfl rfl rfl ?_
                refine q_goto rfl ?_
                refine q_iload_n rfl rfl rfl ?_
                refine q_bipush rfl rfl ?_
                refine q_icge rfl rfl (fun c852 => absurd c852 (by decide)) (fun c852 => ?_)
                refine q_aload_n rfl rfl rfl ?_
                refine q_getf rfl rfl (by decide) (FW_46 S hW) rfl ?_
                refine q_bipush rfl rfl ?_
                refine q_iload_n rfl rfl rfl ?_
                refine q_imul rfl rfl (q_tn (z := 180) rfl ?_)
                refine q_iload_n rfl rfl rfl ?_
                refine q_iadd rfl rfl (q_tn (z := 201) rfl ?_)
                refine q_lconst rfl rfl ?_
                refine q_last rfl rfl (by decide) rfl (by decide) ?_
                refine q_icc2 (z := 22) rfl rfl rfl rfl rfl ?_
                refine q_goto rfl ?_
                refine q_iload_n rfl rfl rfl ?_
                refine q_bipush rfl rfl ?_
                refine q_icge rfl rfl (fun c853 => absurd c853 (by decide)) (fun c853 => ?_)
                refine q_aload_n rfl rfl rfl ?_
                refine q_getf rfl rfl (by decide) (FW_46 S hW) rfl ?_
                refine q_bipush rfl rfl ?_
                refine q_iload_n rfl rfl rfl ?_
                refine q_imul rfl rfl (q_tn (z := 180) rfl ?_)
                refine q_iload_n rfl rfl rfl ?_
                refine q_iadd rfl rfl (q_tn (z := 202) rfl ?_)
                refine q_lconst rfl rfl ?_
                refine q_last rfl rfl (by decide) rfl (by decide) ?_
                refine q_icc2 (z := 23) rfl rfl rfl rfl rfl ?_
                refine q_goto rfl ?_
                refine q_iload_n rfl rfl rfl ?_
                refine q_bipush rfl rfl ?_
                refine q_icge rfl rfl (fun c854 => absurd c854 (by decide)) (fun c854 => ?_)
                refine q_aload_n rfl rfl rfl ?_
                refine q_getf rfl rfl (by decide) (FW_46 S hW) rfl ?_
                refine q_bipush rfl rfl ?_
                refine q_iload_n rfl rfl rfl ?_
                refine q_imul rfl rfl (q_tn (z := 180) rfl ?_)
                refine q_iload_n rfl rfl rfl ?_
                refine q_iadd rfl rfl (q_tn (z := 203) rfl ?_)
                refine q_lconst rfl rfl ?_
                refine q_last rfl rfl (by decide) rfl (by decide) ?_
                refine q_icc2 (z := 24) rfl rfl rfl rfl rfl ?_
                refine q_goto rfl ?_
                refine q_iload_n rfl rfl rfl ?_
                refine q_bipush rfl rfl ?_
                refine q_icge rfl rfl (fun c855 => absurd c855 (by decide)) (fun c855 => ?_)
                refine q_aload_n rfl rfl rfl ?_
                refine q_getf rfl rfl (by decide) (FW_46 S hW) rfl ?_
                refine q_bipush rfl rfl ?_
                refine q_iload_n rfl rfl rfl ?_
                refine q_imul rfl rfl (q_tn (z := 180) rfl ?_)
                refine q_iload_n rfl rfl rfl ?_
                refine q_iadd rfl rfl (q_tn (z := 204) rfl ?_)
                refine q_lconst rfl rfl ?_
                refine q_last rfl rfl (by decide) rfl (by decide) ?_
                refine q_icc2 (z := 25) rfl rfl rfl rfl rfl ?_
                refine q_goto rfl ?_
                refine q_iload_n rfl rfl rfl ?_
                refine q_bipush rfl rfl ?_
                refine q_icge rfl rfl (fun c856 => absurd c856 (by decide)) (fun c856 => ?_)
                refine q_aload_n rfl rfl rfl ?_
                refine q_getf rfl rfl (by decide) (FW_46 S hW) rfl ?_
                refine q_bipush rfl rfl ?_
                refine q_iload_n rfl rfl rfl ?_
                refine q_imul rfl rfl (q_tn (z := 180) rfl ?_)
                refine q_iload_n rfl rfl rfl ?_
                refine q_iadd rfl rfl (q_tn (z := 205) rfl ?_)
                refine q_lconst rfl rfl ?_
                refine q_last rfl rfl (by decide) rfl (by decide) ?_
                refine q_icc2 (z := 26) rfl rfl rfl rfl rfl ?_
                refine q_goto rfl ?_
                refine q_iload_n rfl rfl rfl ?_
                refine q_bipush rfl rfl ?_
                refine q_icge rfl rfl (fun c857 => absurd c857 (by decide)) (fun c857 => ?_)
                refine q_aload_n rfl rfl rfl ?_
                refine q_getf rfl rfl (by decide) (FW_46 S hW) rfl ?_
                refine q_bipush rfl rfl ?_
                refine q_iload_n rfl rfl rfl ?_
                refine q_imul rfl rfl (q_tn (z := 180) rfl ?_)
                refine q_iload_n rfl rfl rfl ?_
                refine q_iadd rfl rfl (q_tn (z := 206) rfl ?_)
                refine q_lconst rfl rfl ?_
                refine q_last rfl rfl (by decide) rfl (by decide) ?_
                refine q_icc2 (z := 27) rfl rfl rfl rfl rfl ?_
                refine q_goto rfl ?_
                refine q_iload_n rfl rfl rfl ?_
                refine q_bipush rfl rfl ?_
                refine q_icge rfl rfl (fun c858 => absurd c858 (by decide)) (fun c858 => ?_)
                refine q_aload_n rfl rfl rfl ?_
                refine q_getf rfl rfl (by decide) (FW_46 S hW) rfl ?_
                refine q_bipush rfl rfl ?_
                refine q_iload_n rfl rfl rfl ?_
                refine q_imul rfl rfl (q_tn (z := 180) rfl ?_)
                refine q_iload_n rfl rfl rfl ?_
                refine q_iadd rfl rfl (q_tn (z := 207) rfl ?_)
                refine q_lconst rfl rfl ?_
                refine q_last rfl rfl (by decide) rfl (by decide) ?_
                refine q_icc2 (z := 28) rfl rfl rfl rfl rfl ?_
                refine q_goto rfl ?_
                refine q_iload_n rfl rfl rfl ?_
                refine q_bipush rfl rfl ?_
                refine q_icge rfl rfl (fun c859 => absurd c859 (by decide)) (fun c859 => ?_)
                refine q_aload_n rfl rfl rfl ?_
                refine q_getf rfl rfl (by decide) (FW_46 S hW) rfl ?_
                refine q_bipush rfl rfl ?_
                refine q_iload_n rfl rfl rfl ?_
                refine q_imul rfl rfl (q_tn (z := 180) rfl ?_)
                refine q_iload_n rfl rfl rfl ?_
                refine q_iadd rfl rfl (q_tn (z := 208) rfl ?_)
                refine q_lconst rfl rfl ?_
                refine q_last rfl rfl (by decide) rfl (by decide) ?_
                refine q_icc2 (z := 29) rfl rfl rfl rfl rfl ?_
                refine q_goto rfl ?_
                refine q_iload_n rfl rfl rfl ?_
                refine q_bipush rfl rfl ?_
                refine q_icge rfl rfl (fun c860 => absurd c860 (by decide)) (fun c860 => ?_)
                refine q_aload_n rfl rfl rfl ?_
                refine q_getf rfl rfl (by decide) (FW_46 S hW) rfl ?_
                refine q_bipush rfl rfl ?_
                refine q_iload_n rfl rfl rfl ?_
                refine q_imul rfl rfl (q_tn (z := 180) rfl ?_)
                refine q_iload_n rfl rfl rfl ?_
                refine q_iadd rfl rfl (q_tn (z := 209) rfl ?_)
                refine q_lconst rfl rfl ?_
                refine q_last rfl rfl (by decide) rfl (by decide) ?_
                refine q_icc2 (z := 30) rfl rfl rfl rfl rfl ?_
                refine q_goto rfl ?_
                refine q_iload_n rfl rfl rfl ?_
                refine q_bipush rfl rfl ?_
                refine q_icge rfl rfl (fun c861 => absurd c861 (by decide)) (fun c861 => ?_)
                refine q_aload_n rfl rfl rfl ?_
                refine q_getf rfl rfl (by decide) (FW_46 S hW) rfl ?_
                refine q_bipush rfl rfl ?_
                refine q_iload_n rfl rfl rfl ?_
                refine q_imul rfl rfl (q_tn (z := 180) rfl ?_)
                refine q_iload_n rfl rfl rfl ?_
                refine q_iadd rfl rfl (q_tn (z := 210) rfl ?_)
                refine q_lconst rfl rfl ?_
                refine q_last rfl rfl (by decide) rfl (by decide) ?_
                refine q_icc2 (z := 31) rfl rfl rfl rfl rfl ?_
                refine q_goto rfl ?_
                refine q_iload_n rfl rfl rfl ?_
                refine q_bipush rfl rfl ?_
                refine q_icge rfl rfl (fun c862 => absurd c862 (by decide)) (fun c862 => ?_)
                refine q_aload_n rfl rfl rfl ?_
                refine q_getf rfl rfl (by decide) (FW_46 S hW) rfl ?_
                refine q_bipush rfl rfl ?_
                refine q_iload_n rfl rfl rfl ?_
                refine q_imul rfl rfl (q_tn (z := 180) rfl ?_)
                refine q_iload_n rfl rfl rfl ?_
                refine q_iadd rfl rfl (q_tn (z := 211) rfl ?_)
                refine q_lconst rfl rfl ?_
                refine q_last rfl rfl (by decide) rfl (by decide) ?_
                refine q_icc2 (z := 32) rfl rfl rfl rfl rfl ?_
                refine q_goto rfl ?_
                refine q_iload_n rfl rfl rfl ?_
                refine q_bipush rfl rfl ?_
                refine q_icge rfl rfl (fun c863 => absurd c863 (by decide)) (fun c863 => ?_)
                refine q_aload_n rfl rfl rfl ?_
                refine q_getf rfl rfl (by decide) (FW_46 S hW) rfl ?_
                refine q_bipush rfl rfl ?_
                refine q_iload_n rfl rfl rfl ?_
                refine q_imul rfl rfl (q_tn (z := 180) rfl ?_)
                refine q_iload_n rfl rfl rfl ?_
                refine q_iadd rfl rfl (q_tn (z := 212) rfl ?_)
                refine q_lconst rfl rfl ?_
                refine q_last rfl rfl (by decide) rfl (by decide) ?_
                refine q_icc2 (z := 33) rfl rfl rfl rfl rfl ?_
                refine q_goto rfl ?_
                refine q_iload_n rfl rfl rfl ?_
                refine q_bipush rfl rfl ?_
                refine q_icge rfl rfl (fun c864 => absurd c864 (by decide)) (fun c864 => ?_)
                refine q_aload_n rfl rfl rfl ?_
                refine q_getf rfl rfl (by decide) (FW_46 S hW) rfl ?_
                refine q_bipush rfl rfl ?_
                refine q_iload_n rfl rfl rfl ?_
                refine q_imul rfl rfl (q_tn (z := 180) rfl ?_)
                refine q_iload_n rfl rfl rfl ?_
                refine q_iadd rfl rfl (q_tn (z := 213) rfl ?_)
                refine q_lconst rfl rfl ?_
                refine q_last rfl rfl (by decide) rfl (by decide) ?_
                refine q_icc2 (z := 34) rfl rfl rfl rfl rfl ?_
                refine q_goto rfl ?_
                refine q_iload_n rfl rfl rfl ?_
                refine q_bipush rfl rfl ?_
                refine q_icge rfl rfl (fun c865 => absurd c865 (by decide)) (fun c865 => ?_)
                refine q_aload_n rfl rfl rfl ?_
                refine q_getf rfl rfl (by decide) (FW_46 S hW) rfl ?_
                refine q_bipush rfl rfl ?_
                refine q_iload_n rfl rfl rfl ?_
                refine q_imul rfl rfl (q_tn (z := 180) rfl ?_)
                refine q_iload_n rfl rfl rfl ?_
                refine q_iadd rfl rfl (q_tn (z := 214) rfl ?_)
                refine q_lconst rfl rfl ?_
                refine q_last rfl rfl (by decide) rfl (by decide) ?_
                refine q_icc2 (z := 35) rfl rfl rfl rfl rfl ?_
                refine q_goto rfl ?_
                refine q_iload_n rfl rfl rfl ?_
                refine q_bipush rfl rfl ?_
                refine q_icge rfl rfl (fun c866 => absurd c866 (by decide)) (fun c866 => ?_)
                refine q_aload_n rfl rfl rfl ?_
                refine q_getf rfl rfl (by decide) (FW_46 S hW) rfl ?_
                refine q_bipush rfl rfl ?_
                refine q_iload_n rfl rfl rfl ?_
                refine q_imul rfl rfl (q_tn (z := 180) rfl ?_)
                refine q_iload_n rfl rfl rfl ?_
                refine q_iadd rfl rfl (q_tn (z := 215) rfl ?_)
                refine q_lconst rfl rfl ?_
                refine q_last rfl rfl (by decide) rfl (by decide) ?_
                refine q_icc2 (z := 36) rfl rfl rfl rfl rfl ?_
                refine q_goto rfl ?_
                refine q_iload_n rfl rfl rfl ?_
                refine q_bipush rfl rfl ?_
                refine q_icge rfl rfl (fun c867 => absurd c867 (by decide)) (fun c867 => ?_)
                refine q_aload_n rfl rfl rfl ?_
                refine q_getf rfl rfl (by decide) (FW_46 S hW) rfl ?_
                refine q_bipush rfl rfl ?_
                refine q_iload_n rfl rfl rfl ?_
                refine q_imul rfl rfl (q_tn (z := 180) rfl ?_)
                refine q_iload_n rfl rfl rfl ?_
                refine q_iadd rfl rfl (q_tn (z := 216) rfl ?_)
                refine q_lconst rfl rfl ?_
                refine q_last rfl rfl (by decide) rfl (by decide) ?_
                refine q_icc2 (z := 37) rfl rfl rfl rfl rfl ?_
                refine q_goto rfl ?_
                refine q_iload_n rfl rfl rfl ?_
                refine q_bipush rfl rfl ?_
                refine q_icge rfl rfl (fun c868 => absurd c868 (by decide)) (fun c868 => ?_)
                refine q_aload_n rfl rfl rfl ?_
                refine q_getf rfl rfl (by decide) (FW_46 S hW) rfl ?_
                refine q_bipush rfl rfl ?_
                refine q_iload_n rfl rfl rfl ?_
                refine q_imul rfl rfl (q_tn (z := 180) rfl ?_)
                refine q_iload_n rfl rfl rfl ?_
                refine q_iadd rfl rfl (q_tn (z := 217) rfl ?_)
                refine q_lconst rfl rfl ?_
                refine q_last rfl rfl (by decide) rfl (by decide) ?_
                refine q_icc2 (z := 38) rfl rfl rfl rfl rfl ?_
                refine q_goto rfl ?_
                refine q_iload_n rfl rfl rfl ?_
                refine q_bipush rfl rfl ?_
                refine q_icge rfl rfl (fun c869 => absurd c869 (by decide)) (fun c869 => ?_)
                refine q_aload_n rfl rfl rfl ?_
                refine q_getf rfl rfl (by decide) (FW_46 S hW) rfl ?_
                refine q_bipush rfl rfl ?_
                refine q_iload_n rfl rfl rfl ?_
                refine q_imul rfl rfl (q_tn (z := 180) rfl ?_)
                refine q_iload_n rfl rfl rfl ?_
                refine q_iadd rfl rfl (q_tn (z := 218) rfl ?_)
                refine q_lconst rfl rfl ?_
                refine q_last rfl rfl (by decide) rfl (by decide) ?_
                refine q_icc2 (z := 39) rfl rfl rfl rfl rfl ?_
                refine q_goto rfl ?_
                refine q_iload_n rfl rfl rfl ?_
                refine q_bipush rfl rfl ?_
                refine q_icge rfl rfl (fun c870 => absurd c870 (by decide)) (fun c870 => ?_)
                refine q_aload_n rfl rfl rfl ?_
                refine q_getf rfl rfl (by decide) (FW_46 S hW) rfl ?_
                refine q_bipush rfl rfl ?_
                refine q_iload_n rfl rfl rfl ?_
                refine q_imul rfl rfl (q_tn (z := 180) rfl ?_)
                refine q_iload_n rfl rfl rfl ?_
                refine q_iadd rfl rfl (q_tn (z := 219) rfl ?_)
                refine q_lconst rfl rfl ?_
                refine q_last rfl rfl (by decide) rfl (by decide) ?_
                refine q_icc2 (z := 40) rfl rfl rfl rfl rfl ?_
                refine q_goto rfl ?_
                refine q_iload_n rfl rfl rfl ?_
                refine q_bipush rfl rfl ?_
                refine q_icge rfl rfl (fun c871 => absurd c871 (by decide)) (fun c871 => ?_)
                refine q_aload_n rfl rfl rfl ?_
                refine q_getf rfl rfl (by decide) (FW_46 S hW) rfl ?_
                refine q_bipush rfl rfl ?_
                refine q_iload_n rfl rfl rfl ?_
                refine q_imul rfl rfl (q_tn (z := 180) rfl ?_)
                refine q_iload_n rfl rfl rfl ?_
                refine q_iadd rfl rfl (q_tn (z := 220) rfl ?_)
                refine q_lconst rfl rfl ?_
                refine q_last rfl rfl (by decide) rfl (by decide) ?_
                refine q_icc2 (z := 41) rfl rfl rfl rfl rfl ?_
                refine q_goto rfl ?_
                refine q_iload_n rfl rfl rfl ?_
                refine q_bipush rfl rfl ?_
                refine q_icge rfl rfl (fun c872 => absurd c872 (by decide)) (fun c872 => ?_)
                refine q_aload_n rfl rfl rfl ?_
                refine q_getf rfl rfl (by decide) (FW_46 S hW) rfl ?_
                refine q_bipush rfl rfl ?_
                refine q_iload_n rfl rfl rfl ?_
                refine q_imul rfl rfl (q_tn (z := 180) rfl ?_)
                refine q_iload_n rfl rfl rfl ?_
                refine q_iadd rfl rfl (q_tn (z := 221) rfl ?_)
                refine q_lconst rfl rfl ?_
                refine q_last rfl rfl (by decide) rfl (by decide) ?_
                refine q_icc2 (z := 42) rfl rfl rfl rfl rfl ?_
                refine q_goto rfl ?_
                refine q_iload_n rfl rfl rfl ?_
                refine q_bipush rfl rfl ?_
                refine q_icge rfl rfl (fun c873 => absurd c873 (by decide)) (fun c873 => ?_)
                refine q_aload_n rfl rfl rfl ?_
                refine q_getf rfl rfl (by decide) (FW_46 S hW) rfl ?_
                refine q_bipush rfl rfl ?_
                refine q_iload_n rfl rfl rfl ?_
                refine q_imul rfl rfl (q_tn (z := 180) rfl ?_)
                refine q_iload_n rfl rfl rfl ?_
                refine q_iadd rfl rfl (q_tn (z := 222) rfl ?_)
                refine q_lconst rfl rfl ?_
                refine q_last rfl rfl (by decide) rfl (by decide) ?_
                refine q_icc2 (z := 43) rfl rfl rfl rfl rfl ?_
                refine q_goto rfl ?_
                refine q_iload_n rfl rfl rfl ?_
                refine q_bipush rfl rfl ?_
                refine q_icge rfl rfl (fun c874 => absurd c874 (by decide)) (fun c874 => ?_)
                refine q_aload_n rfl rfl rfl ?_
                refine q_getf rfl rfl (by decide) (FW_46 S hW) rfl ?_
                refine q_bipush rfl rfl ?_
                refine q_iload_n rfl rfl rfl ?_
                refine q_imul rfl rfl (q_tn (z := 180) rfl ?_)
                refine q_iload_n rfl rfl rfl ?_
                refine q_iadd rfl rfl (q_tn (z := 223) rfl ?_)
                refine q_lconst rfl rfl ?_
                refine q_last rfl rfl (by decide) rfl (by decide) ?_
                refine q_icc2 (z := 44) rfl rfl rfl rfl rfl ?_
                refine q_goto rfl ?_
                refine q_iload_n rfl rfl rfl ?_
                refine q_bipush rfl rfl ?_
                refine q_icge rfl rfl (fun c875 => absurd c875 (by decide)) (fun c875 => ?_)
                refine q_aload_n rfl rfl rfl ?_
                refine q_getf rfl rfl (by decide) (FW_46 S hW) rfl ?_
                refine q_bipush rfl rfl ?_
                refine q_iload_n rfl rfl rfl ?_
                refine q_imul rfl rfl (q_tn (z := 180) rfl ?_)
                refine q_iload_n rfl rfl rfl ?_
                refine q_iadd rfl rfl (q_tn (z := 224) rfl ?_)
                refine q_lconst rfl rfl ?_
                refine q_last rfl rfl (by decide) rfl (by decide) ?_
                refine q_icc2 (z := 45) rfl rfl rfl rfl rfl ?_
                refine q_goto rfl ?_
                refine q_iload_n rfl rfl rfl ?_
                refine q_bipush rfl rfl ?_
                refine q_icge rfl rfl (fun c876 => absurd c876 (by decide)) (fun c876 => ?_)
                refine q_aload_n rfl rfl rfl ?_
                refine q_getf rfl rfl (by decide) (FW_46 S hW) rfl ?_
                refine q_bipush rfl rfl ?_
                refine q_iload_n rfl rfl rfl ?_
                refine q_imul rfl rfl (q_tn (z := 180) rfl ?_)
                refine q_iload_n rfl rfl rfl ?_
                refine q_iadd rfl rfl (q_tn (z := 225) rfl ?_)
                refine q_lconst rfl rfl ?_
                refine q_last rfl rfl (by decide) rfl (by decide) ?_
                refine q_icc2 (z := 46) rfl rfl rfl rfl rfl ?_
                refine q_goto rfl ?_
                refine q_iload_n rfl rfl rfl ?_
                refine q_bipush rfl rfl ?_
                refine q_icge rfl rfl (fun c877 => absurd c877 (by decide)) (fun c877 => ?_)
                refine q_aload_n rfl rfl rfl ?_
                refine q_getf rfl rfl (by decide) (FW_46 S hW) rfl ?_
                refine q_bipush rfl rfl ?_
                refine q_iload_n rfl rfl rfl ?_
                refine q_imul rfl rfl (q_tn (z := 180) rfl ?_)
                refine q_iload_n rfl rfl rfl ?_
                refine q_iadd rfl rfl (q_tn (z := 226) rfl ?_)
                refine q_lconst rfl rfl ?_
                refine q_last rfl rfl (by decide) rfl (by decide) ?_
                refine q_icc2 (z := 47) rfl rfl rfl rfl rfl ?_
                refine q_goto rfl ?_
                refine q_iload_n rfl rfl rfl ?_
                refine q_bipush rfl rfl ?_
                refine q_icge rfl rfl (fun c878 => absurd c878 (by decide)) (fun c878 => ?_)
                refine q_aload_n rfl rfl rfl ?_
                refine q_getf rfl rfl (by decide) (FW_46 S hW) rfl ?_
                refine q_bipush rfl rfl ?_
                refine q_iload_n rfl rfl rfl ?_
                refine q_imul rfl rfl (q_tn (z := 180) rfl ?_)
                refine q_iload_n rfl rfl rfl ?_
                refine q_iadd rfl rfl (q_tn (z := 227) rfl ?_)
                refine q_lconst rfl rfl ?_
                refine q_last rfl rfl (by decide) rfl (by decide) ?_
                refine q_icc2 (z := 48) rfl rfl rfl rfl rfl ?_
                refine q_goto rfl ?_
                refine q_iload_n rfl rfl rfl ?_
                refine q_bipush rfl rfl ?_
                refine q_icge rfl rfl (fun c879 => absurd c879 (by decide)) (fun c879 => ?_)
                refine q_aload_n rfl rfl rfl ?_
                refine q_getf rfl rfl (by decide) (FW_46 S hW) rfl ?_
                refine q_bipush rfl rfl ?_
                refine q_iload_n rfl rfl rfl ?_
                refine q_imul rfl rfl (q_tn (z := 180) rfl ?_)
                refine q_iload_n rfl rfl rfl ?_
                refine q_iadd rfl rfl (q_tn (z := 228) rfl ?_)
                refine q_lconst rfl rfl ?_
                refine q_last rfl rfl (by decide) rfl (by decide) ?_
                refine q_icc2 (z := 49) rfl rfl rfl rfl rfl ?_
                refine q_goto rfl ?_
                refine q_iload_n rfl rfl rfl ?_
                refine q_bipush rfl rfl ?_
                refine q_icge rfl rfl (fun c880 => absurd c880 (by decide)) (fun c880 => ?_)
                refine q_aload_n rfl rfl rfl ?_
                refine q_getf rfl rfl (by decide) (FW_46 S hW) rfl ?_
                refine q_bipush rfl rfl ?_
                refine q_iload_n rfl rfl rfl ?_
                refine q_imul rfl rfl (q_tn (z := 180) rfl ?_)
                refine q_iload_n rfl rfl rfl ?_
                refine q_iadd rfl rfl (q_tn (z := 229) rfl ?_)
                refine q_lconst rfl rfl ?_
                refine q_last rfl rfl (by decide) rfl (by decide) ?_
                refine q_icc2 (z := 50) rfl rfl rfl rfl rfl ?_
                refine q_goto rfl ?_
                refine q_iload_n rfl rfl rfl ?_
                refine q_bipush rfl rfl ?_
                refine q_icge rfl rfl (fun c881 => absurd c881 (by decide)) (fun c881 => ?_)
                refine q_aload_n rfl rfl rfl ?_
                refine q_getf rfl rfl (by decide) (FW_46 S hW) rfl ?_
                refine q_bipush rfl rfl ?_
                refine q_iload_n rfl rfl rfl ?_
                refine q_imul rfl rfl (q_tn (z := 180) rfl ?_)
                refine q_iload_n rfl rfl rfl ?_
                refine q_iadd rfl rfl (q_tn (z := 230) rfl ?_)
                refine q_lconst rfl rfl ?_
                refine q_last rfl rfl (by decide) rfl (by decide) ?_
                refine q_icc2 (z := 51) rfl rfl rfl rfl rfl ?_
                refine q_goto rfl ?_
                refine q_iload_n rfl rfl rfl ?_
                refine q_bipush rfl rfl ?_
                refine q_icge rfl rfl (fun c882 => absurd c882 (by decide)) (fun c882 => ?_)
                refine q_aload_n rfl rfl rfl ?_
                refine q_getf rfl rfl (by decide) (FW_46 S hW) rfl ?_
                refine q_bipush rfl rfl ?_
                refine q_iload_n rfl rfl rfl ?_
                refine q_imul rfl rfl (q_tn (z := 180) rfl ?_)
                refine q_iload_n rfl rfl rfl ?_
                refine q_iadd rfl rfl (q_tn (z := 231) rfl ?_)
                refine q_lconst rfl rfl ?_
                refine q_last rfl rfl (by decide) rfl (by decide) ?_
                refine q_icc2 (z := 52) rfl rfl rfl rfl rfl ?_
                refine q_goto rfl ?_
                refine q_iload_n rfl rfl rfl ?_
                refine q_bipush rfl rfl ?_
                refine q_icge rfl rfl (fun c883 => absurd c883 (by decide)) (fun c883 => ?_)
                refine q_aload_n rfl rfl rfl ?_
                refine q_getf rfl rfl (by decide) (FW_46 S hW) rfl ?_
                refine q_bipush rfl rfl ?_
                refine q_iload_n rfl rfl rfl ?_
                refine q_imul rfl rfl (q_tn (z := 180) rfl ?_)
                refine q_iload_n rfl rfl rfl ?_
                refine q_iadd rfl rfl (q_tn (z := 232) rfl ?_)
                refine q_lconst rfl rfl ?_
                refine q_last rfl rfl (by decide) rfl (by decide) ?_
                refine q_icc2 (z := 53) rfl rfl rfl rfl rfl ?_
                refine q_goto rfl ?_
                refine q_iload_n rfl rfl rfl ?_
                refine q_bipush rfl rfl ?_
                refine q_icge rfl rfl (fun c884 => absurd c884 (by decide)) (fun c884 => ?_)
                refine q_aload_n rfl rfl rfl ?_
                refine q_getf rfl rfl (by decide) (FW_46 S hW) rfl ?_
                refine q_bipush rfl rfl ?_
                refine q_iload_n rfl rfl rfl ?_
                refine q_imul rfl rfl (q_tn (z := 180) rfl ?_)
                refine q_iload_n rfl rfl rfl ?_
                refine q_iadd rfl rfl (q_tn (z := 233) rfl ?_)
                refine q_lconst rfl rfl ?_
                refine q_last rfl rfl (by decide) rfl (by decide) ?_
                refine q_icc2 (z := 54) rfl rfl rfl rfl rfl ?_
                refine q_goto rfl ?_
                refine q_iload_n rfl rfl rfl ?_
                refine q_bipush rfl rfl ?_
                refine q_icge rfl rfl (fun c885 => absurd c885 (by decide)) (fun c885 => ?_)
                refine q_aload_n rfl rfl rfl ?_
                refine q_getf rfl rfl (by decide) (FW_46 S hW) rfl ?_
                refine q_bipush rfl rfl ?_
                refine q_iload_n rfl rfl rfl ?_
                refine q_imul rfl rfl (q_tn (z := 180) rfl ?_)
                refine q_iload_n rfl rfl rfl ?_
                refine q_iadd rfl rfl (q_tn (z := 234) rfl ?_)
                refine q_lconst rfl rfl ?_
                refine q_last rfl rfl (by decide) rfl (by decide) ?_
                refine q_icc2 (z := 55) rfl rfl rfl rfl rfl ?_
                refine q_goto rfl ?_
                refine q_iload_n rfl rfl rfl ?_
                refine q_bipush rfl rfl ?_
                refine q_icge rfl rfl (fun c886 => absurd c886 (by decide)) (fun c886 => ?_)
                refine q_aload_n rfl rfl rfl ?_
                refine q_getf rfl rfl (by decide) (FW_46 S hW) rfl ?_
                refine q_bipush rfl rfl ?_
                refine q_iload_n rfl rfl rfl ?_
                refine q_imul rfl rfl (q_tn (z := 180) rfl ?_)
                refine q_iload_n rfl rfl rfl ?_
                refine q_iadd rfl rfl (q_tn (z := 235) rfl ?_)
                refine q_lconst rfl rfl ?_
                refine q_last rfl rfl (by decide) rfl (by decide) ?_
                refine q_icc2 (z := 56) rfl rfl rfl rfl rfl ?_
                refine q_goto rfl ?_
                refine q_iload_n rfl rfl rfl ?_
                refine q_bipush rfl rfl ?_
                refine q_icge rfl rfl (fun c887 => absurd c887 (by decide)) (fun c887 => ?_)
                refine q_aload_n rfl rfl rfl ?_
                refine q_getf rfl rfl (by decide) (FW_46 S hW) rfl ?_
                refine q_bipush rfl rfl ?_
                refine q_iload_n rfl rfl rfl ?_
                refine q_imul rfl rfl (q_tn (z := 180) rfl ?_)
                refine q_iload_n rfl rfl rfl ?_
                refine q_iadd rfl rfl (q_tn (z := 236) rfl ?_)
                refine q_lconst rfl rfl ?_
                refine q_last rfl rfl (by decide) rfl (by decide) ?_
                refine q_icc2 (z := 57) rfl rfl rfl rfl rfl ?_
                refine q_goto rfl ?_
                refine q_iload_n rfl rfl rfl ?_
                refine q_bipush rfl rfl ?_
                refine q_icge rfl rfl (fun c888 => absurd c888 (by decide)) (fun c888 => ?_)
                refine q_aload_n rfl rfl rfl ?_
                refine q_getf rfl rfl (by decide) (FW_46 S hW) rfl ?_
                refine q_bipush rfl rfl ?_
                refine q_iload_n rfl rfl rfl ?_
                refine q_imul rfl rfl (q_tn (z := 180) rfl ?_)
                refine q_iload_n rfl rfl rfl ?_
                refine q_iadd rfl rfl (q_tn (z := 237) rfl ?_)
                refine q_lconst rfl rfl ?_
                refine q_last rfl rfl (by decide) rfl (by decide) ?_
                refine q_icc2 (z := 58) rfl rfl rfl rfl rfl ?_
                refine q_goto rfl ?_
                refine q_iload_n rfl rfl rfl ?_
                refine q_bipush rfl rfl ?_
                refine q_icge rfl rfl (fun c889 => absurd c889 (by decide)) (fun c889 => ?_)
                refine q_aload_n rfl rfl rfl ?_
                refine q_getf rfl rfl (by decide) (FW_46 S hW) rfl ?_
                refine q_bipush rfl rfl ?_
                refine q_iload_n rfl rfl rfl ?_
                refine q_imul rfl rfl (q_tn (z := 180) rfl ?_)
                refine q_iload_n rfl rfl rfl ?_
                refine q_iadd rfl rfl (q_tn (z := 238) rfl ?_)
                refine q_lconst rfl rfl ?_
                refine q_last rfl rfl (by decide) rfl (by decide) ?_
                refine q_icc2 (z := 59) rfl rfl rfl rfl rfl ?_
                refine q_goto rfl ?_
                refine q_iload_n rfl rfl rfl ?_
                refine q_bipush rfl rfl ?_
                refine q_icge rfl rfl (fun c890 => absurd c890 (by decide)) (fun c890 => ?_)
                refine q_aload_n rfl rfl rfl ?_
                refine q_getf rfl rfl (by decide) (FW_46 S hW) rfl ?_
                refine q_bipush rfl rfl ?_
                refine q_iload_n rfl rfl rfl ?_
                refine q_imul rfl rfl (q_tn (z := 180) rfl ?_)
                refine q_iload_n rfl rfl rfl ?_
                refine q_iadd rfl rfl (q_tn (z := 239) rfl ?_)
                refine q_lconst rfl rfl ?_
                refine q_last rfl rfl (by decide) rfl (by decide) ?_
                refine q_icc2 (z := 60) rfl rfl rfl rfl rfl ?_
                refine q_goto rfl ?_
                refine q_iload_n rfl rfl rfl ?_
                refine q_bipush rfl rfl ?_
                refine q_icge rfl rfl (fun c891 => ?_) (fun c891 => absurd (by decide) c891)
                refine q_ret rfl rfl ?_
                refine ⟨rfl, ?_⟩
                refine q_iconst rfl rfl ?_
                refine q_iret rfl rfl trivial ?_
                refine ⟨_, rfl, ?_⟩
                refine q_iceq rfl rfl (fun c892 => ?_) (fun c892 => absurd (by decide) c892)
                refine q_icc4 (z := 6) rfl rfl rfl rfl rfl ?_
                refine q_goto rfl ?_
                refine q_iload rfl rfl rfl ?_
                refine q_aload_nF rfl rfl rfl ?_
                refine q_alenX (x := 6) rfl rfl rfl ?_
                refine q_bipush rfl rfl ?_
                refine q_isub rfl rfl (q_tn (z := 0) rfl ?_)
                refine q_icgt rfl rfl (fun c893 => ?_) (fun c893 => absurd (by decide) c893)
                refine q_iconst rfl rfl ?_
                refine q_iret rfl rfl rfl ?_
                exact hK _ _
              · refine q_aast rfl rfl (by decide) (by decide) (FW_43 S hW) rfl rfl (by decide) ?_
                refine q_iconst rfl rfl ?_
                refine q_iret rfl rfl trivial ?_
                refine ⟨_, rfl, ?_⟩
                refine q_aload_n rfl rfl rfl ?_
                refine q_aload_nF rfl rfl rfl ?_
                refine q_iload rfl rfl rfl ?_
                refine q_iconst rfl rfl ?_
                refine q_iadd rfl rfl (q_tn (z := 1) rfl ?_)
                refine q_ialdX (x := 4) rfl rfl rfl hx1 ?_
                refine q_aload_nF rfl rfl rfl ?_
                refine q_iload rfl rfl rfl ?_
                refine q_iconst rfl rfl ?_
                refine q_iadd rfl rfl (q_tn (z := 2) rfl ?_)
                refine q_ialdX (x := 4) rfl rfl rfl hx2 ?_
                refine q_aload_nF rfl rfl rfl ?_
                refine q_iload rfl rfl rfl ?_
                refine q_iconst rfl rfl ?_
                refine q_iadd rfl rfl (q_tn (z := 3) rfl ?_)
                refine q_ialdX (x := x3) rfl rfl rfl hx3 ?_
                refine q_nV3 rfl rfl (Or.inl rfl) rfl rfl rfl (by decide) (FW_46 S hW) ⟨rfl, rfl⟩ rfl ?_
                change PQ _ _ _ mm_X12_make 0 [.ref 46, .int 4, .int 4, .int x3] [] _ _ 0 0 _
                refine q_aload_n rfl rfl rfl ?_
                refine q_iload_n rfl rfl rfl ?_
                refine q_nV1 rfl rfl (Or.inl rfl) rfl rfl rfl (by decide) (FW_46 S hW) ⟨rfl, rfl⟩ rfl ?_
                change PQ _ _ _ mm_X12_isShelf 0 [.ref 46, .int 4] [] _ _ 0 0 _
                refine q_aload_n rfl rfl rfl ?_
                refine q_iload_n rfl rfl rfl ?_
                refine q_iconst rfl rfl ?_
                refine q_bipush rfl rfl ?_
                refine q_nV3 rfl rfl (Or.inl rfl) rfl rfl rfl (by decide) (FW_46 S hW) ⟨rfl, rfl⟩ rfl ?_
                change PQ _ _ _ mm_X12_in 0 [.ref 46, .int 4, .int 0, .int 7] [] _ _ 0 0 _
                refine q_iload_n rfl rfl rfl ?_
                refine q_iload_n rfl rfl rfl ?_
                refine q_iclt rfl rfl (fun c894 => absurd c894 (by decide)) (fun c894 => ?_)
                refine q_iload_n rfl rfl rfl ?_
                refine q_iload_n rfl rfl rfl ?_
                refine q_icgt rfl rfl (fun c895 => absurd c895 (by decide)) (fun c895 => ?_)
                refine q_iconst rfl rfl ?_
                refine q_goto rfl ?_
                refine q_iret rfl rfl rfl ?_
                refine ⟨_, rfl, ?_⟩
                refine q_iret rfl rfl rfl ?_
                refine ⟨_, rfl, ?_⟩
                refine q_ifeq rfl rfl (fun c896 => absurd c896 (by decide)) (fun c896 => ?_)
                refine q_aload_n rfl rfl rfl ?_
                refine q_iload_n rfl rfl rfl ?_
                refine q_iconst rfl rfl ?_
                refine q_iconst rfl rfl ?_
                refine q_nV3 rfl rfl (Or.inl rfl) rfl rfl rfl (by decide) (FW_46 S hW) ⟨rfl, rfl⟩ rfl ?_
                change PQ _ _ _ mm_X12_in 0 [.ref 46, .int 4, .int 3, .int 4] [] _ _ 0 0 _
                refine q_iload_n rfl rfl rfl ?_
                refine q_iload_n rfl rfl rfl ?_
                refine q_iclt rfl rfl (fun c897 => absurd c897 (by decide)) (fun c897 => ?_)
                refine q_iload_n rfl rfl rfl ?_
                refine q_iload_n rfl rfl rfl ?_
                refine q_icgt rfl rfl (fun c898 => absurd c898 (by decide)) (fun c898 => ?_)
                refine q_iconst rfl rfl ?_
                refine q_goto rfl ?_
                refine q_iret rfl rfl rfl ?_
                refine ⟨_, rfl, ?_⟩
                refine q_ifeq rfl rfl (fun c899 => absurd c899 (by decide)) (fun c899 => ?_)
                refine q_iload_n rfl rfl rfl ?_
                refine q_bipush rfl rfl ?_
                refine q_icle rfl rfl (fun c900 => ?_) (fun c900 => absurd (i_le_t c607 rfl) c900)
                refine q_iload_n rfl rfl rfl ?_
                refine q_ifge rfl rfl (fun c901 => ?_) (fun c901 => absurd (i_ge_t c608 rfl) c901)
                refine q_aload_n rfl rfl rfl ?_
                refine q_getf rfl rfl (by decide) (FW_46 S hW) rfl ?_
                refine q_iload_n rfl rfl rfl ?_
                refine q_iload_n rfl rfl rfl ?_
                refine q_iast rfl rfl (by decide) (FW_75 S hW) (by decide) ?_
                refine q_aload_n rfl rfl rfl ?_
                refine q_getf rfl rfl (by decide) (FW_46 S hW) rfl ?_
                refine q_iload_n rfl rfl rfl ?_
                refine q_iload_n rfl rfl rfl ?_
                refine q_iast rfl rfl (by decide) (FW_78 S hW) (by decide) ?_
                refine q_aload_n rfl rfl rfl ?_
                refine q_iload_n rfl rfl rfl ?_
                refine q_nV1v rfl rfl (Or.inl rfl) rfl rfl rfl (by decide) (FW_46 S hW) ⟨rfl, rfl⟩ rfl ?_
                change PQ _ _ _ mm_X12_clear 0 [.ref 46, .int 4, pm_un] [] _ _ 0 0 _
                refine q_iconst rfl rfl ?_
                refine q_ist2n rfl rfl rfl rfl ?_
                refine q_iload_n rfl rfl rfl ?_
                refine q_bipush rfl rfl ?_
                refine q_icge rfl rfl (fun c902 => absurd c902 (by decide)) (fun c902 => ?_)
                refine q_aload_n rfl rfl rfl ?_
                refine q_getf rfl rfl (by decide) (FW_46 S hW) rfl ?_
                refine q_bipush rfl rfl ?_
                refine q_iload_n rfl rfl rfl ?_
                refine q_imul rfl rfl (q_tn (z := 240) rfl ?_)
                refine q_iload_n rfl rfl rfl ?_
                refine q_iadd rfl rfl (q_tn (z := 240) rfl ?_)
                refine q_lconst rfl rfl ?_
                refine q_last rfl rfl (by decide) (FW_79 S hW) (by decide) ?_
                refine q_icc2 (z := 1) rfl rfl rfl rfl rfl ?_
                refine q_goto rfl ?_
                refine q_iload_n rfl rfl rfl ?_
                refine q_bipush rfl rfl ?_
                refine q_icge rfl rfl (fun c903 => absurd c903 (by decide)) (fun c903 => ?_)
                refine q_aload_n rfl rfl rfl ?_
                refine q_getf rfl rfl (by decide) (FW_46 S hW) rfl ?_
                refine q_bipush rfl rfl ?_
                refine q_iload_n rfl rfl rfl ?_
                refine q_imul rfl rfl (q_tn (z := 240) rfl ?_)
                refine q_iload_n rfl rfl rfl ?_
                refine q_iadd rfl rfl (q_tn (z := 241) rfl ?_)
                refine q_lconst rfl rfl ?_
                refine q_last rfl rfl (by decide) rfl (by decide) ?_
                refine q_icc2 (z := 2) rfl rfl rfl rfl rfl ?_
                refine q_goto rfl ?_
                refine q_iload_n rfl rfl rfl ?_
                refine q_bipush rfl rfl ?_
                refine q_icge rfl rfl (fun c904 => absurd c904 (by decide)) (fun c904 => ?_)
                refine q_aload_n rfl rfl rfl ?_
                refine q_getf rfl rfl (by decide) (FW_46 S hW) rfl ?_
                refine q_bipush rfl rfl ?_
                refine q_iload_n rfl rfl rfl ?_
                refine q_imul rfl rfl (q_tn (z := 240) rfl ?_)
                refine q_iload_n rfl rfl rfl ?_
                refine q_iadd rfl rfl (q_tn (z := 242) rfl ?_)
                refine q_lconst rfl rfl ?_
                refine q_last rfl rfl (by decide) rfl (by decide) ?_
                refine q_icc2 (z := 3) rfl rfl rfl rfl rfl ?_
                refine q_goto rfl ?_
                refine q_iload_n rfl rfl rfl ?_
                refine q_bipush rfl rfl ?_
                refine q_icge rfl rfl (fun c905 => absurd c905 (by decide)) (fun c905 => ?_)
                refine q_aload_n rfl rfl rfl ?_
                refine q_getf rfl rfl (by decide) (FW_46 S hW) rfl ?_
                refine q_bipush rfl rfl ?_
                refine q_iload_n rfl rfl rfl ?_
                refine q_imul rfl rfl (q_tn (z := 240) rfl ?_)
                refine q_iload_n rfl rfl rfl ?_
                refine q_iadd rfl rfl (q_tn (z := 243) rfl ?_)
                refine q_lconst rfl rfl ?_
                refine q_last rfl rfl (by decide) rfl (by decide) ?_
                refine q_icc2 (z := 4) rfl rfl rfl rfl rfl ?_
                refine q_goto rfl ?_
                refine q_iload_n rfl rfl rfl ?_
                refine q_bipush rfl rfl ?_
                refine q_icge rfl rfl (fun c906 => absurd c906 (by decide)) (fun c906 => ?_)
                refine q_aload_n rfl rfl rfl ?_
                refine q_getf rfl rfl (by decide) (FW_46 S hW) rfl ?_
                refine q_bipush rfl rfl ?_
                refine q_iload_n rfl rfl rfl ?_
                refine q_imul rfl rfl (q_tn (z := 240) rfl ?_)
                refine q_iload_n rfl rfl rfl ?_
                refine q_iadd rfl rfl (q_tn (z := 244) rfl ?_)
                refine q_lconst rfl rfl ?_
                refine q_last rfl rfl (by decide) rfl (by decide) ?_
                refine q_icc2 (z := 5) rfl rfl rfl rfl rfl ?_
                refine q_goto rfl ?_
                refine q_iload_n rfl rfl rfl ?_
                refine q_bipush rfl rfl ?_
                refine q_icge rfl rfl (fun c907 => absurd c907 (by decide)) (fun c907 => ?_)
                refine q_aload_n rfl rfl rfl ?_
                refine q_getf rfl rfl (by decide) (FW_46 S hW) rfl ?_
                refine q_bipush rfl rfl ?_
                refine q_iload_n rfl rfl rfl ?_
                refine q_imul rfl rfl (q_tn (z := 240) rfl ?_)
                refine q_iload_n rfl rfl rfl ?_
                refine q_iadd rfl rfl (q_tn (z := 245) rfl ?_)
                refine q_lconst rfl rfl ?_
                refine q_last rfl rfl (by decide) rfl (by decide) ?_
                refine q_icc2 (z := 6) rfl rfl rfl rfl rfl ?_
                refine q_goto rfl ?_
                refine q_iload_n rfl rfl rfl ?_
                refine q_bipush rfl rfl ?_
                refine q_icge rfl rfl (fun c908 => absurd c908 (by decide)) (fun c908 => ?_)
                refine q_aload_n rfl rfl rfl ?_
                refine q_getf rfl rfl (by decide) (FW_46 S hW) rfl ?_
                refine q_bipush rfl rfl ?_
                refine q_iload_n rfl rfl rfl ?_
                refine q_imul rfl rfl (q_tn (z := 240) rfl ?_)
                refine q_iload_n rfl rfl rfl ?_
                refine q_iadd rfl rfl (q_tn (z := 246) rfl ?_)
                refine q_lconst rfl rfl ?_
                refine q_last rfl rfl (by decide) rfl (by decide) ?_
                refine q_icc2 (z := 7) rfl rfl rfl rfl rfl ?_
                refine q_goto rfl ?_
                refine q_iload_n rfl rfl rfl ?_
                refine q_bipush rfl rfl ?_
                refine q_icge rfl rfl (fun c909 => absurd c909 (by decide)) (fun c909 => ?_)
                refine q_aload_n rfl rfl rfl ?_
                refine q_getf rfl rfl (by decide) (FW_46 S hW) rfl ?_
                refine q_bipush rfl rfl ?_
                refine q_iload_n rfl rfl rfl ?_
                refine q_imul rfl rfl (q_tn (z := 240) rfl ?_)
                refine q_iload_n rfl rfl rfl ?_
                refine q_iadd rfl rfl (q_tn (z := 247) rfl ?_)
                refine q_lconst rfl rfl ?_
                refine q_last rfl rfl (by decide) rfl (by decide) ?_
                refine q_icc2 (z := 8) rfl rfl rfl rfl rfl ?_
                refine q_goto rfl ?_
                refine q_iload_n rfl rfl rfl ?_
                refine q_bipush rfl rfl ?_
                refine q_icge rfl rfl (fun c910 => absurd c910 (by decide)) (fun c910 => ?_)
                refine q_aload_n rfl rfl rfl ?_
                refine q_getf rfl rfl (by decide) (FW_46 S hW) rfl ?_
                refine q_bipush rfl rfl ?_
                refine q_iload_n rfl rfl rfl ?_
                refine q_imul rfl rfl (q_tn (z := 240) rfl ?_)
                refine q_iload_n rfl rfl rfl ?_
                refine q_iadd rfl rfl (q_tn (z := 248) rfl ?_)
                refine q_lconst rfl rfl ?_
                refine q_last rfl rfl (by decide) rfl (by decide) ?_
                refine q_icc2 (z := 9) rfl rfl rfl rfl rfl ?_
                refine q_goto rfl ?_
                refine q_iload_n rfl rfl rfl ?_
                refine q_bipush rfl rfl ?_
                refine q_icge rfl rfl (fun c911 => absurd c911 (by decide)) (fun c911 => ?_)
                refine q_aload_n rfl rfl rfl ?_
                refine q_getf rfl rfl (by decide) (FW_46 S hW) rfl ?_
                refine q_bipush rfl rfl ?_
                refine q_iload_n rfl rfl rfl ?_
                refine q_imul rfl rfl (q_tn (z := 240) rfl ?_)
                refine q_iload_n rfl rfl rfl ?_
                refine q_iadd rfl rfl (q_tn (z := 249) rfl ?_)
                refine q_lconst rfl rfl ?_
                refine q_last rfl rfl (by decide) rfl (by decide) ?_
                refine q_icc2 (z := 10) rfl rfl rfl rfl rfl ?_
                refine q_goto rfl ?_
                refine q_iload_n rfl rfl rfl ?_
                refine q_bipush rfl rfl ?_
                refine q_icge rfl rfl (fun c912 => absurd c912 (by decide)) (fun c912 => ?_)
                refine q_aload_n rfl rfl rfl ?_
                refine q_getf rfl rfl (by decide) (FW_46 S hW) rfl ?_
                refine q_bipush rfl rfl ?_
                refine q_iload_n rfl rfl rfl ?_
                refine q_imul rfl rfl (q_tn (z := 240) rfl ?_)
                refine q_iload_n rfl rfl rfl ?_
                refine q_iadd rfl rfl (q_tn (z := 250) rfl ?_)
                refine q_lconst rfl rfl ?_
                refine q_last rfl rfl (by decide) rfl (by decide) ?_
                refine q_icc2 (z := 11) rfl rfl rfl rfl rfl ?_
                refine q_goto rfl ?_
                refine q_iload_n rfl rfl rfl ?_
                refine q_bipush rfl rfl ?_
                refine q_icge rfl rfl (fun c913 => absurd c913 (by decide)) (fun c913 => ?_)
                refine q_aload_n rfl rfl rfl ?_
                refine q_getf rfl rfl (by decide) (FW_46 S hW) rfl ?_
                refine q_bipush rfl rfl ?_
                refine q_iload_n rfl rfl rfl ?_
                refine q_imul rfl rfl (q_tn (z := 240) rfl ?_)
                refine q_iload_n rfl rfl rfl ?_
                refine q_iadd rfl rfl (q_tn (z := 251) rfl ?_)
                refine q_lconst rfl rfl ?_
                refine q_last rfl rfl (by decide) rfl (by decide) ?_
                refine q_icc2 (z := 12) rfl rfl rfl rfl rfl ?_
                refine q_goto rfl ?_
                refine q_iload_n rfl rfl rfl ?_
                refine q_bipush rfl rfl ?_
                refine q_icge rfl rfl (fun c914 => absurd c914 (by decide)) (fun c914 => ?_)
                refine q_aload_n rfl rfl rfl ?_
                refine q_getf rfl rfl (by decide) (FW_46 S hW) rfl ?_
                refine q_bipush rfl rfl ?_
                refine q_iload_n rfl rfl rfl ?_
                refine q_imul rfl rfl (q_tn (z := 240) rfl ?_)
                refine q_iload_n rfl rfl rfl ?_
                refine q_iadd rfl rfl (q_tn (z := 252) rfl ?_)
                refine q_lconst rfl rfl ?_
                refine q_last rfl rfl (by decide) rfl (by decide) ?_
                refine q_icc2 (z := 13) rfl rfl rfl rfl rfl ?_
                refine q_goto rfl ?_
                refine q_iload_n rfl rfl rfl ?_
                refine q_bipush rfl rfl ?_
                refine q_icge rfl rfl (fun c915 => absurd c915 (by decide)) (fun c915 => ?_)
                refine q_aload_n rfl rfl rfl ?_
                refine q_getf rfl rfl (by decide) (FW_46 S hW) rfl ?_
                refine q_bipush rfl rfl ?_
                refine q_iload_n rfl rfl rfl ?_
                refine q_imul rfl rfl (q_tn (z := 240) rfl ?_)
                refine q_iload_n rfl rfl rfl ?_
                refine q_iadd rfl rfl (q_tn (z := 253) rfl ?_)
                refine q_lconst rfl rfl ?_
                refine q_last rfl rfl (by decide) rfl (by decide) ?_
                refine q_icc2 (z := 14) rfl rfl rfl rfl rfl ?_
                refine q_goto rfl ?_
                refine q_iload_n rfl rfl rfl ?_
                refine q_bipush rfl rfl ?_
                refine q_icge rfl rfl (fun c916 => absurd c916 (by decide)) (fun c916 => ?_)
                refine q_aload_n rfl rfl rfl ?_
                refine q_getf rfl rfl (by decide) (FW_46 S hW) rfl ?_
                refine q_bipush rfl rfl ?_
                refine q_iload_n rfl rfl rfl ?_
                refine q_imul rfl rfl (q_tn (z := 240) rfl ?_)
                refine q_iload_n rfl rfl rfl ?_
                refine q_iadd rfl rfl (q_tn (z := 254) rfl ?_)
                refine q_lconst rfl rfl ?_
                refine q_last rfl rfl (by decide) rfl (by decide) ?_
                refine q_icc2 (z := 15) rfl rfl rfl rfl rfl ?_
                refine q_goto rfl ?_
                refine q_iload_n rfl rfl rfl ?_
                refine q_bipush rfl rfl ?_
                refine q_icge rfl rfl (fun c917 => absurd c917 (by decide)) (fun c917 => ?_)
                refine q_aload_n rfl rfl rfl ?_
                refine q_getf rfl rfl (by decide) (FW_46 S hW) rfl ?_
                refine q_bipush rfl rfl ?_
                refine q_iload_n rfl rfl rfl ?_
                refine q_imul rfl rfl (q_tn (z := 240) rfl ?_)
                refine q_iload_n rfl rfl rfl ?_
                refine q_iadd rfl rfl (q_tn (z := 255) rfl ?_)
                refine q_lconst rfl rfl ?_
                refine q_last rfl rfl (by decide) rfl (by decide) ?_
                refine q_icc2 (z := 16) rfl rfl rfl rfl rfl ?_
                refine q_goto rfl ?_
                refine q_iload_n rfl rfl rfl ?_
                refine q_bipush rfl rfl ?_
                refine q_icge rfl rfl (fun c918 => absurd c918 (by decide)) (fun c918 => ?_)
                refine q_aload_n rfl rfl rfl ?_
                refine q_getf rfl rfl (by decide) (FW_46 S hW) rfl ?_
                refine q_bipush rfl rfl ?_
                refine q_iload_n rfl rfl rfl ?_
                refine q_imul rfl rfl (q_tn (z := 240) rfl ?_)
                refine q_iload_n rfl rfl rfl ?_
                refine q_iadd rfl rfl (q_tn (z := 256) rfl ?_)
                refine q_lconst rfl rfl ?_
                refine q_last rfl rfl (by decide) rfl (by decide) ?_
                refine q_icc2 (z := 17) rfl rfl rfl rfl rfl ?_
                refine q_goto rfl ?_
                refine q_iload_n rfl rfl rfl ?_
                refine q_bipush rfl rfl ?_
                refine q_icge rfl rfl (fun c919 => absurd c919 (by decide)) (fun c919 => ?_)
                refine q_aload_n rfl rfl rfl ?_
                refine q_getf rfl rfl (by decide) (FW_46 S hW) rfl ?_
                refine q_bipush rfl rfl ?_
                refine q_iload_n rfl rfl rfl ?_
                refine q_imul rfl rfl (q_tn (z := 240) rfl ?_)
                refine q_iload_n rfl rfl rfl ?_
                refine q_iadd rfl rfl (q_tn (z := 257) rfl ?_)
                refine q_lconst rfl rfl ?_
                refine q_last rfl rfl (by decide) rfl (by decide) ?_
                refine q_icc2 (z := 18) rfl rfl rfl rfl rfl ?_
                refine q_goto rfl ?_
                refine q_iload_n rfl rfl rfl ?_
                refine q_bipush rfl rfl ?_
                refine q_icge rfl rfl (fun c920 => absurd c920 (by decide)) (fun c920 => ?_)
                refine q_aload_n rfl rfl rfl ?_
                refine q_getf rfl rfl (by decide) (FW_46 S hW) rfl ?_
                refine q_bipush rfl rfl ?_
                refine q_iload_n rfl rfl rfl ?_
                refine q_imul rfl rfl (q_tn (z := 240) rfl ?_)
                refine q_iload_n rfl rfl rfl ?_
                refine q_iadd rfl rfl (q_tn (z := 258) rfl ?_)
                refine q_lconst rfl rfl ?_
                refine q_last rfl rfl (by decide) rfl (by decide) ?_
                refine q_icc2 (z := 19) rfl rfl rfl rfl rfl ?_
                refine q_goto rfl ?_
                refine q_iload_n rfl rfl rfl ?_
                refine q_bipush rfl rfl ?_
                refine q_icge rfl rfl (fun c921 => absurd c921 (by decide)) (fun c921 => ?_)
                refine q_aload_n rfl rfl rfl ?_
                refine q_getf rfl rfl (by decide) (FW_46 S hW) rfl ?_
                refine q_bipush rfl rfl ?_
                refine q_iload_n rfl rfl rfl ?_
                refine q_imul rfl rfl (q_tn (z := 240) rfl ?_)
                refine q_iload_n rfl rfl rfl ?_
                refine q_iadd rfl rfl (q_tn (z := 259) rfl ?_)
                refine q_lconst rfl rfl ?_
                refine q_last rfl rfl (by decide) rfl (by decide) ?_
                refine q_icc2 (z := 20) rfl rfl rfl rfl rfl ?_
                refine q_goto rfl ?_
                refine q_iload_n rfl rfl rfl ?_
                refine q_bipush rfl rfl ?_
                refine q_icge rfl rfl (fun c922 => absurd c922 (by decide)) (fun c922 => ?_)
                refine q_aload_n rfl rfl rfl ?_
                refine q_getf rfl rfl (by decide) (FW_46 S hW) rfl ?_
                refine q_bipush rfl rfl ?_
                refine q_iload_n rfl rfl rfl ?_
                refine q_imul rfl rfl (q_tn (z := 240) rfl ?_)
                refine q_iload_n rfl rfl rfl ?_
                refine q_iadd rfl rfl (q_tn (z := 260) rfl ?_)
                refine q_lconst rfl rfl ?_
                refine q_last rfl rfl (by decide) rfl (by decide) ?_
                refine q_icc2 (z := 21) rfl rfl rfl rfl rfl ?_
                refine q_goto rfl ?_
                refine q_iload_n rfl rfl rfl ?_
                refine q_bipush rfl rfl ?_
                refine q_icge rfl rfl (fun c923 => absurd c923 (by decide)) (fun c923 => ?_)
                refine q_aload_n rfl rfl rfl ?_
                refine q_getf rfl rfl (by decide) (FW_46 S hW) rfl ?_
                refine q_bipush rfl rfl ?_
                refine q_iload_n rfl rfl rfl ?_
                refine q_imul rfl rfl (q_tn (z := 240) rfl ?_)
                refine q_iload_n rfl rfl rfl ?_
                refine q_iadd rfl rfl (q_tn (z := 261) rfl ?_)
                refine q_lconst rfl rfl ?_
                refine q_last rfl rfl (by decide) rfl (by decide) ?_
                refine q_icc2 (z := 22) rfl rfl rfl rfl rfl ?_
                refine q_goto rfl ?_
                refine q_iload_n rfl rfl rfl ?_
                refine q_bipush rfl rfl ?_
                refine q_icge rfl rfl (fun c924 => absurd c924 (by decide)) (fun c924 => ?_)
                refine q_aload_n rfl rfl rfl ?_
                refine q_getf rfl rfl (by decide) (FW_46 S hW) rfl ?_
                refine q_bipush rfl rfl ?_
                refine q_iload_n rfl rfl rfl ?_
                refine q_imul rfl rfl (q_tn (z := 240) rfl ?_)
                refine q_iload_n rfl rfl rfl ?_
                refine q_iadd rfl rfl (q_tn (z := 262) rfl ?_)
                refine q_lconst rfl rfl ?_
                refine q_last rfl rfl (by decide) rfl (by decide) ?_
                refine q_icc2 (z := 23) rfl rfl rfl rfl rfl ?_
                refine q_goto rfl ?_
                refine q_iload_n rfl rfl rfl ?_
                refine q_bipush rfl rfl ?_
                refine q_icge rfl rfl (fun c925 => absurd c925 (by decide)) (fun c925 => ?_)
                refine q_aload_n rfl rfl rfl ?_
                refine q_getf rfl rfl (by decide) (FW_46 S hW) rfl ?_
                refine q_bipush rfl rfl ?_
                refine q_iload_n rfl rfl rfl ?_
                refine q_imul rfl rfl (q_tn (z := 240) rfl ?_)
                refine q_iload_n rfl rfl rfl ?_
                refine q_iadd rfl rfl (q_tn (z := 263) rfl ?_)
                refine q_lconst rfl rfl ?_
                refine q_last rfl rfl (by decide) rfl (by decide) ?_
                refine q_icc2 (z := 24) rfl rfl rfl rfl rfl ?_
                refine q_goto rfl ?_
                refine q_iload_n rfl rfl rfl ?_
                refine q_bipush rfl rfl ?_
                refine q_icge rfl rfl (fun c926 => absurd c926 (by decide)) (fun c926 => ?_)
                refine q_aload_n rfl rfl rfl ?_
                refine q_getf rfl rfl (by decide) (FW_46 S hW) rfl ?_
                refine q_bipush rfl rfl ?_
                refine q_iload_n rfl rfl rfl ?_
                refine q_imul rfl rfl (q_tn (z := 240) rfl ?_)
                refine q_iload_n rfl rfl rfl ?_
                refine q_iadd rfl rfl (q_tn (z := 264) rfl ?_)
                refine q_lconst rfl rfl ?_
                refine q_last rfl rfl (by decide) rfl (by decide) ?_
                refine q_icc2 (z := 25) rfl rfl rfl rfl rfl ?_
                refine q_goto rfl ?_
                refine q_iload_n rfl rfl rfl ?_
                refine q_bipush rfl rfl ?_
                refine q_icge rfl rfl (fun c927 => absurd c927 (by decide)) (fun c927 => ?_)
                refine q_aload_n rfl rfl rfl ?_
                refine q_getf rfl rfl (by decide) (FW_46 S hW) rfl ?_
                refine q_bipush rfl rfl ?_
                refine q_iload_n rfl rfl rfl ?_
                refine q_imul rfl rfl (q_tn (z := 240) rfl ?_)
                refine q_iload_n rfl rfl rfl ?_
                refine q_iadd rfl rfl (q_tn (z := 265) rfl ?_)
                refine q_lconst rfl rfl ?_
                refine q_last rfl rfl (by decide) rfl (by decide) ?_
                refine q_icc2 (z := 26) rfl rfl rfl rfl rfl ?_
                refine q_goto rfl ?_
                refine q_iload_n rfl rfl rfl ?_
                refine q_bipush rfl rfl ?_
                refine q_icge rfl rfl (fun c928 => absurd c928 (by decide)) (fun c928 => ?_)
                refine q_aload_n rfl rfl rfl ?_
                refine q_getf rfl rfl (by decide) (FW_46 S hW) rfl ?_
                refine q_bipush rfl rfl ?_
                refine q_iload_n rfl rfl rfl ?_
                refine q_imul rfl rfl (q_tn (z := 240) rfl ?_)
                refine q_iload_n rfl rfl rfl ?_
                refine q_iadd rfl rfl (q_tn (z := 266) rfl ?_)
                refine q_lconst rfl rfl ?_
                refine q_last rfl rfl (by decide) rfl (by decide) ?_
                refine q_icc2 (z := 27) rfl rfl rfl rfl rfl ?_
                refine q_goto rfl ?_
                refine q_iload_n rfl rfl rfl ?_
                refine q_bipush rfl rfl ?_
                refine q_icge rfl rfl (fun c929 => absurd c929 (by decide)) (fun c929 => ?_)
                refine q_aload_n rfl rfl rfl ?_
                refine q_getf rfl rfl (by decide) (FW_46 S hW) rfl ?_
                refine q_bipush rfl rfl ?_
                refine q_iload_n rfl rfl rfl ?_
                refine q_imul rfl rfl (q_tn (z := 240) rfl ?_)
                refine q_iload_n rfl rfl rfl ?_
                refine q_iadd rfl rfl (q_tn (z := 267) rfl ?_)
                refine q_lconst rfl rfl ?_
                refine q_last rfl rfl (by decide) rfl (by decide) ?_
                refine q_icc2 (z := 28) rfl rfl rfl rfl rfl ?_
                refine q_goto rfl ?_
                refine q_iload_n rfl rfl rfl ?_
                refine q_bipush rfl rfl ?_
                refine q_icge rfl rfl (fun c930 => absurd c930 (by decide)) (fun c930 => ?_)
                refine q_aload_n rfl rfl rfl ?_
                refine q_getf rfl rfl (by decide) (FW_46 S hW) rfl ?_
                refine q_bipush rfl rfl ?_
                refine q_iload_n rfl rfl rfl ?_
                refine q_imul rfl rfl (q_tn (z := 240) rfl ?_)
                refine q_iload_n rfl rfl rfl ?_
                refine q_iadd rfl rfl (q_tn (z := 268) rfl ?_)
                refine q_lconst rfl rfl ?_
                refine q_last rfl rfl (by decide) rfl (by decide) ?_
                refine q_icc2 (z := 29) rfl rfl rfl rfl rfl ?_
                refine q_goto rfl ?_
                refine q_iload_n rfl rfl rfl ?_
                refine q_bipush rfl rfl ?_
                refine q_icge rfl rfl (fun c931 => absurd c931 (by decide)) (fun c931 => ?_)
                refine q_aload_n rfl rfl rfl ?_
                refine q_getf rfl rfl (by decide) (FW_46 S hW) rfl ?_
                refine q_bipush rfl rfl ?_
                refine q_iload_n rfl rfl rfl ?_
                refine q_imul rfl rfl (q_tn (z := 240) rfl ?_)
                refine q_iload_n rfl rfl rfl ?_
                refine q_iadd rfl rfl (q_tn (z := 269) rfl ?_)
                refine q_lconst rfl rfl ?_
                refine q_last rfl rfl (by decide) rfl (by decide) ?_
                refine q_icc2 (z := 30) rfl rfl rfl rfl rfl ?_
                refine q_goto rfl ?_
                refine q_iload_n rfl rfl rfl ?_
                refine q_bipush rfl rfl ?_
                refine q_icge rfl rfl (fun c932 => absurd c932 (by decide)) (fun c932 => ?_)
                refine q_aload_n rfl rfl rfl ?_
                refine q_getf rfl rfl (by decide) (FW_46 S hW) rfl ?_
                refine q_bipush rfl rfl ?_
                refine q_iload_n rfl rfl rfl ?_
                refine q_imul rfl rfl (q_tn (z := 240) rfl ?_)
                refine q_iload_n rfl rfl rfl ?_
                refine q_iadd rfl rfl (q_tn (z := 270) rfl ?_)
                refine q_lconst rfl rfl ?_
                refine q_last rfl rfl (by decide) rfl (by decide) ?_
                refine q_icc2 (z := 31) rfl rfl rfl rfl rfl ?_
                refine q_goto rfl ?_
                refine q_iload_n rfl rfl rfl ?_
                refine q_bipush rfl rfl ?_
                refine q_icge rfl rfl (fun c933 => absurd c933 (by decide)) (fun c933 => ?_)
                refine q_aload_n rfl rfl rfl ?_
                refine q_getf rfl rfl (by decide) (FW_46 S hW) rfl ?_
                refine q_bipush rfl rfl ?_
                refine q_iload_n rfl rfl rfl ?_
                refine q_imul rfl rfl (q_tn (z := 240) rfl ?_)
                refine q_iload_n rfl rfl rfl ?_
                refine q_iadd rfl rfl (q_tn (z := 271) rfl ?_)
                refine q_lconst rfl rfl ?_
                refine q_last rfl rfl (by decide) rfl (by decide) ?_
                refine q_icc2 (z := 32) rfl rfl rfl rfl rfl ?_
                refine q_goto rfl ?_
                refine q_iload_n rfl rfl rfl ?_
                refine q_bipush rfl rfl ?_
                refine q_icge rfl rfl (fun c934 => absurd c934 (by decide)) (fun c934 => ?_)
                refine q_aload_n rfl rfl rfl ?_
                refine q_getf rfl rfl (by decide) (FW_46 S hW) rfl ?_
                refine q_bipush rfl rfl ?_
                refine q_iload_n rfl rfl rfl ?_
                refine q_imul rfl rfl (q_tn (z := 240) rfl ?_)
                refine q_iload_n rfl rfl rfl ?_
                refine q_iadd rfl rfl (q_tn (z := 272) rfl ?_)
                refine q_lconst rfl rfl ?_
                refine q_last rfl rfl (by decide) rfl (by decide) ?_
                refine q_icc2 (z := 33) rfl rfl rfl rfl rfl ?_
                refine q_goto rfl ?_
                refine q_iload_n rfl rfl rfl ?_
                refine q_bipush rfl rfl ?_
                refine q_icge rfl rfl (fun c935 => absurd c935 (by decide)) (fun c935 => ?_)
                refine q_aload_n rfl rfl rfl ?_
                refine q_getf rfl rfl (by decide) (FW_46 S hW) rfl ?_
                refine q_bipush rfl rfl ?_
                refine q_iload_n rfl rfl rfl ?_
                refine q_imul rfl rfl (q_tn (z := 240) rfl ?_)
                refine q_iload_n rfl rfl rfl ?_
                refine q_iadd rfl rfl (q_tn (z := 273) rfl ?_)
                refine q_lconst rfl rfl ?_
                refine q_last rfl rfl (by decide) rfl (by decide) ?_
                refine q_icc2 (z := 34) rfl rfl rfl rfl rfl ?_
                refine q_goto rfl ?_
                refine q_iload_n rfl rfl rfl ?_
                refine q_bipush rfl rfl ?_
                refine q_icge rfl rfl (fun c936 => absurd c936 (by decide)) (fun c936 => ?_)
                refine q_aload_n rfl rfl rfl ?_
                refine q_getf rfl rfl (by decide) (FW_46 S hW) rfl ?_
                refine q_bipush rfl rfl ?_
                refine q_iload_n rfl rfl rfl ?_
                refine q_imul rfl rfl (q_tn (z := 240) rfl ?_)
                refine q_iload_n rfl rfl rfl ?_
                refine q_iadd rfl rfl (q_tn (z := 274) rfl ?_)
                refine q_lconst rfl rfl ?_
                refine q_last rfl rfl (by decide) rfl (by decide) ?_
                refine q_icc2 (z := 35) rfl rfl rfl rfl rfl ?_
                refine q_goto rfl ?_
                refine q_iload_n rfl rfl rfl ?_
                refine q_bipush rfl rfl ?_
                refine q_icge rfl rfl (fun c937 => absurd c937 (by decide)) (fun c937 => ?_)
                refine q_aload_n rfl rfl rfl ?_
                refine q_getf rfl rfl (by decide) (FW_46 S hW) rfl ?_
                refine q_bipush rfl rfl ?_
                refine q_iload_n rfl rfl rfl ?_
                refine q_imul rfl rfl (q_tn (z := 240) rfl ?_)
                refine q_iload_n rfl rfl rfl ?_
                refine q_iadd rfl rfl (q_tn (z := 275) rfl ?_)
                refine q_lconst rfl rfl ?_
                refine q_last rfl rfl (by decide) rfl (by decide) ?_
                refine q_icc2 (z := 36) rfl rfl rfl rfl rfl ?_
                refine q_goto rfl ?_
                refine q_iload_n rfl rfl rfl ?_
                refine q_bipush rfl rfl ?_
                refine q_icge rfl rfl (fun c938 => absurd c938 (by decide)) (fun c938 => ?_)
                refine q_aload_n rfl rfl rfl ?_
                refine q_getf rfl rfl (by decide) (FW_46 S hW) rfl ?_
                refine q_bipush rfl rfl ?_
                refine q_iload_n rfl rfl rfl ?_
                refine q_imul rfl rfl (q_tn (z := 240) rfl ?_)
                refine q_iload_n rfl rfl rfl ?_
                refine q_iadd rfl rfl (q_tn (z := 276) rfl ?_)
                refine q_lconst rfl rfl ?_
                refine q_last rfl rfl (by decide) rfl (by decide) ?_
                refine q_icc2 (z := 37) rfl rfl rfl rfl rfl ?_
                refine q_goto rfl ?_
                refine q_iload_n rfl rfl rfl ?_
                refine q_bipush rfl rfl ?_
                refine q_icge rfl rfl (fun c939 => absurd c939 (by decide)) (fun c939 => ?_)
                refine q_aload_n rfl rfl rfl ?_
                refine q_getf rfl rfl (by decide) (FW_46 S hW) rfl ?_
                refine q_bipush rfl rfl ?_
                refine q_iload_n rfl rfl rfl ?_
                refine q_imul rfl rfl (q_tn (z := 240) rfl ?_)
                refine q_iload_n rfl rfl rfl ?_
                refine q_iadd rfl rfl (q_tn (z := 277) rfl ?_)
                refine q_lconst rfl rfl ?_
                refine q_last rfl rfl (by decide) rfl (by decide) ?_
                refine q_icc2 (z := 38) rfl rfl rfl rfl rfl ?_
                refine q_goto rfl ?_
                refine q_iload_n rfl rfl rfl ?_
                refine q_bipush rfl rfl ?_
                refine q_icge rfl rfl (fun c940 => absurd c940 (by decide)) (fun c940 => ?_)
                refine q_aload_n rfl rfl rfl ?_
                refine q_getf rfl rfl (by decide) (FW_46 S hW) rfl ?_
                refine q_bipush rfl rfl ?_
                refine q_iload_n rfl rfl rfl ?_
                refine q_imul rfl rfl (q_tn (z := 240) rfl ?_)
                refine q_iload_n rfl rfl rfl ?_
                refine q_iadd rfl rfl (q_tn (z := 278) rfl ?_)
                refine q_lconst rfl rfl ?_
                refine q_last rfl rfl (by decide) rfl (by decide) ?_
                refine q_icc2 (z := 39) rfl rfl rfl rfl rfl ?_
                refine q_goto rfl ?_
                refine q_iload_n rfl rfl rfl ?_
                refine q_bipush rfl rfl ?_
                refine q_icge rfl rfl (fun c941 => absurd c941 (by decide)) (fun c941 => ?_)
                refine q_aload_n rfl rfl rfl ?_
                refine q_getf rfl rfl (by decide) (FW_46 S hW) rfl ?_
                refine q_bipush rfl rfl ?_
                refine q_iload_n rfl rfl rfl ?_
                refine q_imul rfl rfl (q_tn (z := 240) rfl ?_)
                refine q_iload_n rfl rfl rfl ?_
                refine q_iadd rfl rfl (q_tn (z := 279) rfl ?_)
                refine q_lconst rfl rfl ?_
                refine q_last rfl rfl (by decide) rfl (by decide) ?_
                refine q_icc2 (z := 40) rfl rfl rfl rfl rfl ?_
                refine q_goto rfl ?_
                refine q_iload_n rfl rfl rfl ?_
                refine q_bipush rfl rfl ?_
                refine q_icge rfl rfl (fun c942 => absurd c942 (by decide)) (fun c942 => ?_)
                refine q_aload_n rfl rfl rfl ?_
                refine q_getf rfl rfl (by decide) (FW_46 S hW) rfl ?_
                refine q_bipush rfl rfl ?_
                refine q_iload_n rfl rfl rfl ?_
                refine q_imul rfl rfl (q_tn (z := 240) rfl ?_)
                refine q_iload_n rfl rfl rfl ?_
                refine q_iadd rfl rfl (q_tn (z := 280) rfl ?_)
                refine q_lconst rfl rfl ?_
                refine q_last rfl rfl (by decide) rfl (by decide) ?_
                refine q_icc2 (z := 41) rfl rfl rfl rfl rfl ?_
                refine q_goto rfl ?_
                refine q_iload_n rfl rfl rfl ?_
                refine q_bipush rfl rfl ?_
                refine q_icge rfl rfl (fun c943 => absurd c943 (by decide)) (fun c943 => ?_)
                refine q_aload_n rfl rfl rfl ?_
                refine q_getf rfl rfl (by decide) (FW_46 S hW) rfl ?_
                refine q_bipush rfl rfl ?_
                refine q_iload_n rfl rfl rfl ?_
                refine q_imul rfl rfl (q_tn (z := 240) rfl ?_)
                refine q_iload_n rfl rfl rfl ?_
                refine q_iadd rfl rfl (q_tn (z := 281) rfl ?_)
                refine q_lconst rfl rfl ?_
                refine q_last rfl rfl (by decide) rfl (by decide) ?_
                refine q_icc2 (z := 42) rfl rfl rfl rfl rfl ?_
                refine q_goto rfl ?_
                refine q_iload_n rfl rfl rfl ?_
                refine q_bipush rfl rfl ?_
                refine q_icge rfl rfl (fun c944 => absurd c944 (by decide)) (fun c944 => ?_)
                refine q_aload_n rfl rfl rfl ?_
                refine q_getf rfl rfl (by decide) (FW_46 S hW) rfl ?_
                refine q_bipush rfl rfl ?_
                refine q_iload_n rfl rfl rfl ?_
                refine q_imul rfl rfl (q_tn (z := 240) rfl ?_)
                refine q_iload_n rfl rfl rfl ?_
                refine q_iadd rfl rfl (q_tn (z := 282) rfl ?_)
                refine q_lconst rfl rfl ?_
                refine q_last rfl rfl (by decide) rfl (by decide) ?_
                refine q_icc2 (z := 43) rfl rfl rfl rfl rfl ?_
                refine q_goto rfl ?_
                refine q_iload_n rfl rfl rfl ?_
                refine q_bipush rfl rfl ?_
                refine q_icge rfl rfl (fun c945 => absurd c945 (by decide)) (fun c945 => ?_)
                refine q_aload_n rfl rfl rfl ?_
                refine q_getf rfl rfl (by decide) (FW_46 S hW) rfl ?_
                refine q_bipush rfl rfl ?_
                refine q_iload_n rfl rfl rfl ?_
                refine q_imul rfl rfl (q_tn (z := 240) rfl ?_)
                refine q_iload_n rfl rfl rfl ?_
                refine q_iadd rfl rfl (q_tn (z := 283) rfl ?_)
                refine q_lconst rfl rfl ?_
                refine q_last rfl rfl (by decide) rfl (by decide) ?_
                refine q_icc2 (z := 44) rfl rfl rfl rfl rfl ?_
                refine q_goto rfl ?_
                refine q_iload_n rfl rfl rfl ?_
                refine q_bipush rfl rfl ?_
                refine q_icge rfl rfl (fun c946 => absurd c946 (by decide)) (fun c946 => ?_)
                refine q_aload_n rfl rfl rfl ?_
                refine q_getf rfl rfl (by decide) (FW_46 S hW) rfl ?_
                refine q_bipush rfl rfl ?_
                refine q_iload_n rfl rfl rfl ?_
                refine q_imul rfl rfl (q_tn (z := 240) rfl ?_)
                refine q_iload_n rfl rfl rfl ?_
                refine q_iadd rfl rfl (q_tn (z := 284) rfl ?_)
                refine q_lconst rfl rfl ?_
                refine q_last rfl rfl (by decide) rfl (by decide) ?_
                refine q_icc2 (z := 45) rfl rfl rfl rfl rfl ?_
                refine q_goto rfl ?_
                refine q_iload_n rfl rfl rfl ?_
                refine q_bipush rfl rfl ?_
                refine q_icge rfl rfl (fun c947 => absurd c947 (by decide)) (fun c947 => ?_)
                refine q_aload_n rfl rfl rfl ?_
                refine q_getf rfl rfl (by decide) (FW_46 S hW) rfl ?_
                refine q_bipush rfl rfl ?_
                refine q_iload_n rfl rfl rfl ?_
                refine q_imul rfl rfl (q_tn (z := 240) rfl ?_)
                refine q_iload_n rfl rfl rfl ?_
                refine q_iadd rfl rfl (q_tn (z := 285) rfl ?_)
                refine q_lconst rfl rfl ?_
                refine q_last rfl rfl (by decide) rfl (by decide) ?_
                refine q_icc2 (z := 46) rfl rfl rfl rfl rfl ?_
                refine q_goto rfl ?_
                refine q_iload_n rfl rfl rfl ?_
                refine q_bipush rfl rfl ?_
                refine q_icge rfl rfl (fun c948 => absurd c948 (by decide)) (fun c948 => ?_)
                refine q_aload_n rfl rfl rfl ?_
                refine q_getf rfl rfl (by decide) (FW_46 S hW) rfl ?_
                refine q_bipush rfl rfl ?_
                refine q_iload_n rfl rfl rfl ?_
                refine q_imul rfl rfl (q_tn (z := 240) rfl ?_)
                refine q_iload_n rfl rfl rfl ?_
                refine q_iadd rfl rfl (q_tn (z := 286) rfl ?_)
                refine q_lconst rfl rfl ?_
                refine q_last rfl rfl (by decide) rfl (by decide) ?_
                refine q_icc2 (z := 47) rfl rfl rfl rfl rfl ?_
                refine q_goto rfl ?_
                refine q_iload_n rfl rfl rfl ?_
                refine q_bipush rfl rfl ?_
                refine q_icge rfl rfl (fun c949 => absurd c949 (by decide)) (fun c949 => ?_)
                refine q_aload_n rfl rfl rfl ?_
                refine q_getf rfl rfl (by decide) (FW_46 S hW) rfl ?_
                refine q_bipush rfl rfl ?_
                refine q_iload_n rfl rfl rfl ?_
                refine q_imul rfl rfl (q_tn (z := 240) rfl ?_)
                refine q_iload_n rfl rfl rfl ?_
                refine q_iadd rfl rfl (q_tn (z := 287) rfl ?_)
                refine q_lconst rfl rfl ?_
                refine q_last rfl rfl (by decide) rfl (by decide) ?_
                refine q_icc2 (z := 48) rfl rfl rfl rfl rfl ?_
                refine q_goto rfl ?_
                refine q_iload_n rfl rfl rfl ?_
                refine q_bipush rfl rfl ?_
                refine q_icge rfl rfl (fun c950 => absurd c950 (by decide)) (fun c950 => ?_)
                refine q_aload_n rfl rfl rfl ?_
                refine q_getf rfl rfl (by decide) (FW_46 S hW) rfl ?_
                refine q_bipush rfl rfl ?_
                refine q_iload_n rfl rfl rfl ?_
                refine q_imul rfl rfl (q_tn (z := 240) rfl ?_)
                refine q_iload_n rfl rfl rfl ?_
                refine q_iadd rfl rfl (q_tn (z := 288) rfl ?_)
                refine q_lconst rfl rfl ?_
                refine q_last rfl rfl (by decide) rfl (by decide) ?_
                refine q_icc2 (z := 49) rfl rfl rfl rfl rfl ?_
                refine q_goto rfl ?_
                refine q_iload_n rfl rfl rfl ?_
                refine q_bipush rfl rfl ?_
                refine q_icge rfl rfl (fun c951 => absurd c951 (by decide)) (fun c951 => ?_)
                refine q_aload_n rfl rfl rfl ?_
                refine q_getf rfl rfl (by decide) (FW_46 S hW) rfl ?_
                refine q_bipush rfl rfl ?_
                refine q_iload_n rfl rfl rfl ?_
                refine q_imul rfl rfl (q_tn (z := 240) rfl ?_)
                refine q_iload_n rfl rfl rfl ?_
                refine q_iadd rfl rfl (q_tn (z := 289) rfl ?_)
                refine q_lconst rfl rfl ?_
                refine q_last rfl rfl (by decide) rfl (by decide) ?_
                refine q_icc2 (z := 50) rfl rfl rfl rfl rfl ?_
                refine q_goto rfl ?_
                refine q_iload_n rfl rfl rfl ?_
                refine q_bipush rfl rfl ?_
                refine q_icge rfl rfl (fun c952 => absurd c952 (by decide)) (fun c952 => ?_)
                refine q_aload_n rfl rfl rfl ?_
                refine q_getf rfl rfl (by decide) (FW_46 S hW) rfl ?_
                refine q_bipush rfl rfl ?_
                refine q_iload_n rfl rfl rfl ?_
                refine q_imul rfl rfl (q_tn (z := 240) rfl ?_)
                refine q_iload_n rfl rfl rfl ?_
                refine q_iadd rfl rfl (q_tn (z := 290) rfl ?_)
                refine q_lconst rfl rfl ?_
                refine q_last rfl rfl (by decide) rfl (by decide) ?_
                refine q_icc2 (z := 51) rfl rfl rfl rfl rfl ?_
                refine q_goto rfl ?_
                refine q_iload_n rfl rfl rfl ?_
                refine q_bipush rfl rfl ?_
                refine q_icge rfl rfl (fun c953 => absurd c953 (by decide)) (fun c953 => ?_)
                refine q_aload_n rfl rfl rfl ?_
                refine q_getf rfl rfl (by decide) (FW_46 S hW) rfl ?_
                refine q_bipush rfl rfl ?_
                refine q_iload_n rfl rfl rfl ?_
                refine q_imul rfl rfl (q_tn (z := 240) rfl ?_)
                refine q_iload_n rfl rfl rfl ?_
                refine q_iadd rfl rfl (q_tn (z := 291) rfl ?_)
                refine q_lconst rfl rfl ?_
                refine q_last rfl rfl (by decide) rfl (by decide) ?_
                refine q_icc2 (z := 52) rfl rfl rfl rfl rfl ?_
                refine q_goto rfl ?_
                refine q_iload_n rfl rfl rfl ?_
                refine q_bipush rfl rfl ?_
                refine q_icge rfl rfl (fun c954 => absurd c954 (by decide)) (fun c954 => ?_)
                refine q_aload_n rfl rfl rfl ?_
                refine q_getf rfl rfl (by decide) (FW_46 S hW) rfl ?_
                refine q_bipush rfl rfl ?_
                refine q_iload_n rfl rfl rfl ?_
                refine q_imul rfl rfl (q_tn (z := 240) rfl ?_)
                refine q_iload_n rfl rfl rfl ?_
                refine q_iadd rfl rfl (q_tn (z := 292) rfl ?_)
                refine q_lconst rfl rfl ?_
                refine q_last rfl rfl (by decide) rfl (by decide) ?_
                refine q_icc2 (z := 53) rfl rfl rfl rfl rfl ?_
                refine q_goto rfl ?_
                refine q_iload_n rfl rfl rfl ?_
                refine q_bipush rfl rfl ?_
                refine q_icge rfl rfl (fun c955 => absurd c955 (by decide)) (fun c955 => ?_)
                refine q_aload_n rfl rfl rfl ?_
                refine q_getf rfl rfl (by decide) (FW_46 S hW) rfl ?_
                refine q_bipush rfl rfl ?_
                refine q_iload_n rfl rfl rfl ?_
                refine q_imul rfl rfl (q_tn (z := 240) rfl ?_)
                refine q_iload_n rfl rfl rfl ?_
                refine q_iadd rfl rfl (q_tn (z := 293) rfl ?_)
                refine q_lconst rfl rfl ?_
                refine q_last rfl rfl (by decide) rfl (by decide) ?_
                refine q_icc2 (z := 54) rfl rfl rfl rfl rfl ?_
                refine q_goto rfl ?_
                refine q_iload_n rfl rfl rfl ?_
                refine q_bipush rfl rfl ?_
                refine q_icge rfl rfl (fun c956 => absurd c956 (by decide)) (fun c956 => ?_)
                refine q_aload_n rfl rfl rfl ?_
                refine q_getf rfl rfl (by decide) (FW_46 S hW) rfl ?_
                refine q_bipush rfl rfl ?_
                refine q_iload_n rfl rfl rfl ?_
                refine q_imul rfl rfl (q_tn (z := 240) rfl ?_)
                refine q_iload_n rfl rfl rfl ?_
                refine q_iadd rfl rfl (q_tn (z := 294) rfl ?_)
                refine q_lconst rfl rfl ?_
                refine q_last rfl rfl (by decide) rfl (by decide) ?_
                refine q_icc2 (z := 55) rfl rfl rfl rfl rfl ?_
                refine q_goto rfl ?_
                refine q_iload_n rfl rfl rfl ?_
                refine q_bipush rfl rfl ?_
                refine q_icge rfl rfl (fun c957 => absurd c957 (by decide)) (fun c957 => ?_)
                refine q_aload_n rfl rfl rfl ?_
                refine q_getf rfl rfl (by decide) (FW_46 S hW) rfl ?_
                refine q_bipush rfl rfl ?_
                refine q_iload_n rfl rfl rfl ?_
                refine q_imul rfl rfl (q_tn (z := 240) rfl ?_)
                refine q_iload_n rfl rfl rfl ?_
                refine q_iadd rfl rfl (q_tn (z := 295) rfl ?_)
                refine q_lconst rfl rfl ?_
                refine q_last rfl rfl (by decide) rfl (by decide) ?_
                refine q_icc2 (z := 56) rfl rfl rfl rfl rfl ?_
                refine q_goto rfl ?_
                refine q_iload_n rfl rfl rfl ?_
                refine q_bipush rfl rfl ?_
                refine q_icge rfl rfl (fun c958 => absurd c958 (by decide)) (fun c958 => ?_)
                refine q_aload_n rfl rfl rfl ?_
                refine q_getf rfl rfl (by decide) (FW_46 S hW) rfl ?_
                refine q_bipush rfl rfl ?_
                refine q_iload_n rfl rfl rfl ?_
                refine q_imul rfl rfl (q_tn (z := 240) rfl ?_)
                refine q_iload_n rfl rfl rfl ?_
                refine q_iadd rfl rfl (q_tn (z := 296) rfl ?_)
                refine q_lconst rfl rfl ?_
                refine q_last rfl rfl (by decide) rfl (by decide) ?_
                refine q_icc2 (z := 57) rfl rfl rfl rfl rfl ?_
                refine q_goto rfl ?_
                refine q_iload_n rfl rfl rfl ?_
                refine q_bipush rfl rfl ?_
                refine q_icge rfl rfl (fun c959 => absurd c959 (by decide)) (fun c959 => ?_)
                refine q_aload_n rfl rfl rfl ?_
                refine q_getf rfl rfl (by decide) (FW_46 S hW) rfl ?_
                refine q_bipush rfl rfl ?_
                refine q_iload_n rfl rfl rfl ?_
                refine q_imul rfl rfl (q_tn (z := 240) rfl ?_)
                refine q_iload_n rfl rfl rfl ?_
                refine q_iadd rfl rfl (q_tn (z := 297) rfl ?_)
                refine q_lconst rfl rfl ?_
                refine q_last rfl rfl (by decide) rfl (by decide) ?_
                refine q_icc2 (z := 58) rfl rfl rfl rfl rfl ?_
                refine q_goto rfl ?_
                refine q_iload_n rfl rfl rfl ?_
                refine q_bipush rfl rfl ?_
                refine q_icge rfl rfl (fun c960 => absurd c960 (by decide)) (fun c960 => ?_)
                refine q_aload_n rfl rfl rfl ?_
                refine q_getf rfl rfl (by decide) (FW_46 S hW) rfl ?_
                refine q_bipush rfl rfl ?_
                refine q_iload_n rfl rfl rfl ?_
                refine q_imul rfl rfl (q_tn (z := 240) rfl ?_)
                refine q_iload_n rfl rfl rfl ?_
                refine q_iadd rfl rfl (q_tn (z := 298) rfl ?_)
                refine q_lconst rfl rfl ?_
                refine q_last rfl rfl (by decide) rfl (by decide) ?_
                refine q_icc2 (z := 59) rfl rfl rfl rfl rfl ?_
                refine q_goto rfl ?_
                refine q_iload_n rfl rfl rfl ?_
                refine q_bipush rfl rfl ?_
                refine q_icge rfl rfl (fun c961 => absurd c961 (by decide)) (fun c961 => ?_)
                refine q_aload_n rfl rfl rfl ?_
                refine q_getf rfl rfl (by decide) (FW_46 S hW) rfl ?_
                refine q_bipush rfl rfl ?_
                refine q_iload_n rfl rfl rfl ?_
                refine q_imul rfl rfl (q_tn (z := 240) rfl ?_)
                refine q_iload_n rfl rfl rfl ?_
                refine q_iadd rfl rfl (q_tn (z := 299) rfl ?_)
                refine q_lconst rfl rfl ?_
                refine q_last rfl rfl (by decide) rfl (by decide) ?_
                refine q_icc2 (z := 60) rfl rfl rfl rfl rfl ?_
                refine q_goto rfl ?_
                refine q_iload_n rfl rfl rfl ?_
                refine q_bipush rfl rfl ?_
                refine q_icge rfl rfl (fun c962 => ?_) (fun c962 => absurd (by decide) c962)
                refine q_ret rfl rfl ?_
                refine ⟨rfl, ?_⟩
                refine q_iconst rfl rfl ?_
                refine q_iret rfl rfl trivial ?_
                refine ⟨_, rfl, ?_⟩
                refine q_iceq rfl rfl (fun c963 => ?_) (fun c963 => absurd (by decide) c963)
                refine q_icc4 (z := 6) rfl rfl rfl rfl rfl ?_
                refine q_goto rfl ?_
                refine q_iload rfl rfl rfl ?_
                refine q_aload_nF rfl rfl rfl ?_
                refine q_alenX (x := 6) rfl rfl rfl ?_
                refine q_bipush rfl rfl ?_
                refine q_isub rfl rfl (q_tn (z := 0) rfl ?_)
                refine q_icgt rfl rfl (fun c964 => ?_) (fun c964 => absurd (by decide) c964)
                refine q_iconst rfl rfl ?_
                refine q_iret rfl rfl rfl ?_
                exact hK _ _
              · refine q_aast rfl rfl (by decide) (by decide) (FW_43 S hW) rfl rfl (by decide) ?_
                refine q_iconst rfl rfl ?_
                refine q_iret rfl rfl trivial ?_
                refine ⟨_, rfl, ?_⟩
                refine q_aload_n rfl rfl rfl ?_
                refine q_aload_nF rfl rfl rfl ?_
                refine q_iload rfl rfl rfl ?_
                refine q_iconst rfl rfl ?_
                refine q_iadd rfl rfl (q_tn (z := 1) rfl ?_)
                refine q_ialdX (x := 5) rfl rfl rfl hx1 ?_
                refine q_aload_nF rfl rfl rfl ?_
                refine q_iload rfl rfl rfl ?_
                refine q_iconst rfl rfl ?_
                refine q_iadd rfl rfl (q_tn (z := 2) rfl ?_)
                refine q_ialdX (x := 4) rfl rfl rfl hx2 ?_
                refine q_aload_nF rfl rfl rfl ?_
                refine q_iload rfl rfl rfl ?_
                refine q_iconst rfl rfl ?_
                refine q_iadd rfl rfl (q_tn (z := 3) rfl ?_)
                refine q_ialdX (x := x3) rfl rfl rfl hx3 ?_
                refine q_nV3 rfl rfl (Or.inl rfl) rfl rfl rfl (by decide) (FW_46 S hW) ⟨rfl, rfl⟩ rfl ?_
                change PQ _ _ _ mm_X12_make 0 [.ref 46, .int 5, .int 4, .int x3] [] _ _ 0 0 _
                refine q_aload_n rfl rfl rfl ?_
                refine q_iload_n rfl rfl rfl ?_
                refine q_nV1 rfl rfl (Or.inl rfl) rfl rfl rfl (by decide) (FW_46 S hW) ⟨rfl, rfl⟩ rfl ?_
                change PQ _ _ _ mm_X12_isShelf 0 [.ref 46, .int 5] [] _ _ 0 0 _
                refine q_aload_n rfl rfl rfl ?_
                refine q_iload_n rfl rfl rfl ?_
                refine q_iconst rfl rfl ?_
                refine q_bipush rfl rfl ?_
                refine q_nV3 rfl rfl (Or.inl rfl) rfl rfl rfl (by decide) (FW_46 S hW) ⟨rfl, rfl⟩ rfl ?_
                change PQ _ _ _ mm_X12_in 0 [.ref 46, .int 5, .int 0, .int 7] [] _ _ 0 0 _
                refine q_iload_n rfl rfl rfl ?_
                refine q_iload_n rfl rfl rfl ?_
                refine q_iclt rfl rfl (fun c965 => absurd c965 (by decide)) (fun c965 => ?_)
                refine q_iload_n rfl rfl rfl ?_
                refine q_iload_n rfl rfl rfl ?_
                refine q_icgt rfl rfl (fun c966 => absurd c966 (by decide)) (fun c966 => ?_)
                refine q_iconst rfl rfl ?_
                refine q_goto rfl ?_
                refine q_iret rfl rfl rfl ?_
                refine ⟨_, rfl, ?_⟩
                refine q_iret rfl rfl rfl ?_
                refine ⟨_, rfl, ?_⟩
                refine q_ifeq rfl rfl (fun c967 => absurd c967 (by decide)) (fun c967 => ?_)
                refine q_aload_n rfl rfl rfl ?_
                refine q_iload_n rfl rfl rfl ?_
                refine q_iconst rfl rfl ?_
                refine q_iconst rfl rfl ?_
                refine q_nV3 rfl rfl (Or.inl rfl) rfl rfl rfl (by decide) (FW_46 S hW) ⟨rfl, rfl⟩ rfl ?_
                change PQ _ _ _ mm_X12_in 0 [.ref 46, .int 4, .int 3, .int 4] [] _ _ 0 0 _
                refine q_iload_n rfl rfl rfl ?_
                refine q_iload_n rfl rfl rfl ?_
                refine q_iclt rfl rfl (fun c968 => absurd c968 (by decide)) (fun c968 => ?_)
                refine q_iload_n rfl rfl rfl ?_
                refine q_iload_n rfl rfl rfl ?_
                refine q_icgt rfl rfl (fun c969 => absurd c969 (by decide)) (fun c969 => ?_)
                refine q_iconst rfl rfl ?_
                refine q_goto rfl ?_
                refine q_iret rfl rfl rfl ?_
                refine ⟨_, rfl, ?_⟩
                refine q_ifeq rfl rfl (fun c970 => absurd c970 (by decide)) (fun c970 => ?_)
                refine q_iload_n rfl rfl rfl ?_
                refine q_bipush rfl rfl ?_
                refine q_icle rfl rfl (fun c971 => ?_) (fun c971 => absurd (i_le_t c607 rfl) c971)
                refine q_iload_n rfl rfl rfl ?_
                refine q_ifge rfl rfl (fun c972 => ?_) (fun c972 => absurd (i_ge_t c608 rfl) c972)
                refine q_aload_n rfl rfl rfl ?_
                refine q_getf rfl rfl (by decide) (FW_46 S hW) rfl ?_
                refine q_iload_n rfl rfl rfl ?_
                refine q_iload_n rfl rfl rfl ?_
                refine q_iast rfl rfl (by decide) (FW_75 S hW) (by decide) ?_
                refine q_aload_n rfl rfl rfl ?_
                refine q_getf rfl rfl (by decide) (FW_46 S hW) rfl ?_
                refine q_iload_n rfl rfl rfl ?_
                refine q_iload_n rfl rfl rfl ?_
                refine q_iast rfl rfl (by decide) (FW_78 S hW) (by decide) ?_
                refine q_aload_n rfl rfl rfl ?_
                refine q_iload_n rfl rfl rfl ?_
                refine q_nV1v rfl rfl (Or.inl rfl) rfl rfl rfl (by decide) (FW_46 S hW) ⟨rfl, rfl⟩ rfl ?_
                change PQ _ _ _ mm_X12_clear 0 [.ref 46, .int 5, pm_un] [] _ _ 0 0 _
                refine q_iconst rfl rfl ?_
                refine q_ist2n rfl rfl rfl rfl ?_
                refine q_iload_n rfl rfl rfl ?_
                refine q_bipush rfl rfl ?_
                refine q_icge rfl rfl (fun c973 => absurd c973 (by decide)) (fun c973 => ?_)
                refine q_aload_n rfl rfl rfl ?_
                refine q_getf rfl rfl (by decide) (FW_46 S hW) rfl ?_
                refine q_bipush rfl rfl ?_
                refine q_iload_n rfl rfl rfl ?_
                refine q_imul rfl rfl (q_tn (z := 300) rfl ?_)
                refine q_iload_n rfl rfl rfl ?_
                refine q_iadd rfl rfl (q_tn (z := 300) rfl ?_)
                refine q_lconst rfl rfl ?_
                refine q_last rfl rfl (by decide) (FW_79 S hW) (by decide) ?_
                refine q_icc2 (z := 1) rfl rfl rfl rfl rfl ?_
                refine q_goto rfl ?_
                refine q_iload_n rfl rfl rfl ?_
                refine q_bipush rfl rfl ?_
                refine q_icge rfl rfl (fun c974 => absurd c974 (by decide)) (fun c974 => ?_)
                refine q_aload_n rfl rfl rfl ?_
                refine q_getf rfl rfl (by decide) (FW_46 S hW) rfl ?_
                refine q_bipush rfl rfl ?_
                refine q_iload_n rfl rfl rfl ?_
                refine q_imul rfl rfl (q_tn (z := 300) rfl ?_)
                refine q_iload_n rfl rfl rfl ?_
                refine q_iadd rfl rfl (q_tn (z := 301) rfl ?_)
                refine q_lconst rfl rfl ?_
                refine q_last rfl rfl (by decide) rfl (by decide) ?_
                refine q_icc2 (z := 2) rfl rfl rfl rfl rfl ?_
                refine q_goto rfl ?_
                refine q_iload_n rfl rfl rfl ?_
                refine q_bipush rfl rfl ?_
                refine q_icge rfl rfl (fun c975 => absurd c975 (by decide)) (fun c975 => ?_)
                refine q_aload_n rfl rfl rfl ?_
                refine q_getf rfl rfl (by decide) (FW_46 S hW) rfl ?_
                refine q_bipush rfl rfl ?_
                refine q_iload_n rfl rfl rfl ?_
                refine q_imul rfl rfl (q_tn (z := 300) rfl ?_)
                refine q_iload_n rfl rfl rfl ?_
                refine q_iadd rfl rfl (q_tn (z := 302) rfl ?_)
                refine q_lconst rfl rfl ?_
                refine q_last rfl rfl (by decide) rfl (by decide) ?_
                refine q_icc2 (z := 3) rfl rfl rfl rfl rfl ?_
                refine q_goto rfl ?_
                refine q_iload_n rfl rfl rfl ?_
                refine q_bipush rfl rfl ?_
                refine q_icge rfl rfl (fun c976 => absurd c976 (by decide)) (fun c976 => ?_)
                refine q_aload_n rfl rfl rfl ?_
                refine q_getf rfl rfl (by decide) (FW_46 S hW) rfl ?_
                refine q_bipush rfl rfl ?_
                refine q_iload_n rfl rfl rfl ?_
                refine q_imul rfl rfl (q_tn (z := 300) rfl ?_)
                refine q_iload_n rfl rfl rfl ?_
                refine q_iadd rfl rfl (q_tn (z := 303) rfl ?_)
                refine q_lconst rfl rfl ?_
                refine q_last rfl rfl (by decide) rfl (by decide) ?_
                refine q_icc2 (z := 4) rfl rfl rfl rfl rfl ?_
                refine q_goto rfl ?_
                refine q_iload_n rfl rfl rfl ?_
                refine q_bipush rfl rfl ?_
                refine q_icge rfl rfl (fun c977 => absurd c977 (by decide)) (fun c977 => ?_)
                refine q_aload_n rfl rfl rfl ?_
                refine q_getf rfl rfl (by decide) (FW_46 S hW) rfl ?_
                refine q_bipush rfl rfl ?_
                refine q_iload_n rfl rfl rfl ?_
                refine q_imul rfl rfl (q_tn (z := 300) rfl ?_)
                refine q_iload_n rfl rfl rfl ?_
                refine q_iadd rfl rfl (q_tn (z := 304) rfl ?_)
                refine q_lconst rfl rfl ?_
                refine q_last rfl rfl (by decide) rfl (by decide) ?_
                refine q_icc2 (z := 5) rfl rfl rfl rfl rfl ?_
                refine q_goto rfl ?_
                refine q_iload_n rfl rfl rfl ?_
                refine q_bipush rfl rfl ?_
                refine q_icge rfl rfl (fun c978 => absurd c978 (by decide)) (fun c978 => ?_)
                refine q_aload_n rfl rfl rfl ?_
                refine q_getf rfl rfl (by decide) (FW_46 S hW) rfl ?_
                refine q_bipush rfl rfl ?_
                refine q_iload_n rfl rfl rfl ?_
                refine q_imul rfl rfl (q_tn (z := 300) rfl ?_)
                refine q_iload_n rfl rfl rfl ?_
                refine q_iadd rfl rfl (q_tn (z := 305) rfl ?_)
                refine q_lconst rfl rfl ?_
                refine q_last rfl rfl (by decide) rfl (by decide) ?_
                refine q_icc2 (z := 6) rfl rfl rfl rfl rfl ?_
                refine q_goto rfl ?_
                refine q_iload_n rfl rfl rfl ?_
                refine q_bipush rfl rfl ?_
                refine q_icge rfl rfl (fun c979 => absurd c979 (by decide)) (fun c979 => ?_)
                refine q_aload_n rfl rfl rfl ?_
                refine q_getf rfl rfl (by decide) (FW_46 S hW) rfl ?_
                refine q_bipush rfl rfl ?_
                refine q_iload_n rfl rfl rfl ?_
                refine q_imul rfl rfl (q_tn (z := 300) rfl ?_)
                refine q_iload_n rfl rfl rfl ?_
                refine q_iadd rfl rfl (q_tn (z := 306) rfl ?_)
                refine q_lconst rfl rfl ?_
                refine q_last rfl rfl (by decide) rfl (by decide) ?_
                refine q_icc2 (z := 7) rfl rfl rfl rfl rfl ?_
                refine q_goto rfl ?_
                refine q_iload_n rfl rfl rfl ?_
                refine q_bipush rfl rfl ?_
                refine q_icge rfl rfl (fun c980 => absurd c980 (by decide)) (fun c980 => ?_)
                refine q_aload_n rfl rfl rfl ?_
                refine q_getf rfl rfl (by decide) (FW_46 S hW) rfl ?_
                refine q_bipush rfl rfl ?_
                refine q_iload_n rfl rfl rfl ?_
                refine q_imul rfl rfl (q_tn (z := 300) rfl ?_)
                refine q_iload_n rfl rfl rfl ?_
                refine q_iadd rfl rfl (q_tn (z := 307) rfl ?_)
                refine q_lconst rfl rfl ?_
                refine q_last rfl rfl (by decide) rfl (by decide) ?_
                refine q_icc2 (z := 8) rfl rfl rfl rfl rfl ?_
                refine q_goto rfl ?_
                refine q_iload_n rfl rfl rfl ?_
                refine q_bipush rfl rfl ?_
                refine q_icge rfl rfl (fun c981 => absurd c981 (by decide)) (fun c981 => ?_)
                refine q_aload_n rfl rfl rfl ?_
                refine q_getf rfl rfl (by decide) (FW_46 S hW) rfl ?_
                refine q_bipush rfl rfl ?_
                refine q_iload_n rfl rfl rfl ?_
                refine q_imul rfl rfl (q_tn (z := 300) rfl ?_)
                refine q_iload_n rfl rfl rfl ?_
                refine q_iadd rfl rfl (q_tn (z := 308) rfl ?_)
                refine q_lconst rfl rfl ?_
                refine q_last rfl rfl (by decide) rfl (by decide) ?_
                refine q_icc2 (z := 9) rfl rfl rfl rfl rfl ?_
                refine q_goto rfl ?_
                refine q_iload_n rfl rfl rfl ?_
                refine q_bipush rfl rfl ?_
                refine q_icge rfl rfl (fun c982 => absurd c982 (by decide)) (fun c982 => ?_)
                refine q_aload_n rfl rfl rfl ?_
                refine q_getf rfl rfl (by decide) (FW_46 S hW) rfl ?_
                refine q_bipush rfl rfl ?_
                refine q_iload_n rfl rfl rfl ?_
                refine q_imul rfl rfl (q_tn (z := 300) rfl ?_)
                refine q_iload_n rfl rfl rfl ?_
                refine q_iadd rfl rfl (q_tn (z := 309) rfl ?_)
                refine q_lconst rfl rfl ?_
                refine q_last rfl rfl (by decide) rfl (by decide) ?_
                refine q_icc2 (z := 10) rfl rfl rfl rfl rfl ?_
                refine q_goto rfl ?_
                refine q_iload_n rfl rfl rfl ?_
                refine q_bipush rfl rfl ?_
                refine q_icge rfl rfl (fun c983 => absurd c983 (by decide)) (fun c983 => ?_)
                refine q_aload_n rfl rfl rfl ?_
                refine q_getf rfl rfl (by decide) (FW_46 S hW) rfl ?_
                refine q_bipush rfl rfl ?_
                refine q_iload_n rfl rfl rfl ?_
                refine q_imul rfl rfl (q_tn (z := 300) rfl ?_)
                refine q_iload_n rfl rfl rfl ?_
                refine q_iadd rfl rfl (q_tn (z := 310) rfl ?_)
                refine q_lconst rfl rfl ?_
                refine q_last rfl rfl (by decide) rfl (by decide) ?_
                refine q_icc2 (z := 11) rfl rfl rfl rfl rfl ?_
                refine q_goto rfl ?_
                refine q_iload_n rfl rfl rfl ?_
                refine q_bipush rfl rfl ?_
                refine q_icge rfl rfl (fun c984 => absurd c984 (by decide)) (fun c984 => ?_)
                refine q_aload_n rfl rfl rfl ?_
                refine q_getf rfl rfl (by decide) (FW_46 S hW) rfl ?_
                refine q_bipush rfl rfl ?_
                refine q_iload_n rfl rfl rfl ?_
                refine q_imul rfl rfl (q_tn (z := 300) rfl ?_)
                refine q_iload_n rfl rfl rfl ?_
                refine q_iadd rfl rfl (q_tn (z := 311) rfl ?_)
                refine q_lconst rfl rfl ?_
                refine q_last rfl rfl (by decide) rfl (by decide) ?_
                refine q_icc2 (z := 12) rfl rfl rfl rfl rfl ?_
                refine q_goto rfl ?_
                refine q_iload_n rfl rfl rfl ?_
                refine q_bipush rfl rfl ?_
                refine q_icge rfl rfl (fun c985 => absurd c985 (by decide)) (fun c985 => ?_)
                refine q_aload_n rfl rfl rfl ?_
                refine q_getf rfl rfl (by decide) (FW_46 S hW) rfl ?_
                refine q_bipush rfl rfl ?_
                refine q_iload_n rfl rfl rfl ?_
                refine q_imul rfl rfl (q_tn (z := 300) rfl ?_)
                refine q_iload_n rfl rfl rfl ?_
                refine q_iadd rfl rfl (q_tn (z := 312) rfl ?_)
                refine q_lconst rfl rfl ?_
                refine q_last rfl rfl (by decide) rfl (by decide) ?_
                refine q_icc2 (z := 13) rfl rfl rfl rfl rfl ?_
                refine q_goto rfl ?_
                refine q_iload_n rfl rfl rfl ?_
                refine q_bipush rfl rfl ?_
                refine q_icge rfl rfl (fun c986 => absurd c986 (by decide)) (fun c986 => ?_)
                refine q_aload_n rfl rfl rfl ?_
                refine q_getf rfl rfl (by decide) (FW_46 S hW) rfl ?_
                refine q_bipush rfl rfl ?_
                refine q_iload_n rfl rfl rfl ?_
                refine q_imul rfl rfl (q_tn (z := 300) rfl ?_)
                refine q_iload_n rfl rfl rfl ?_
                refine q_iadd rfl rfl (q_tn (z := 313) rfl ?_)
                refine q_lconst rfl rfl ?_
                refine q_last rfl rfl (by decide) rfl (by decide) ?_
                refine q_icc2 (z := 14) rfl rfl rfl rfl rfl ?_
                refine q_goto rfl ?_
                refine q_iload_n rfl rfl rfl ?_
                refine q_bipush rfl rfl ?_
                refine q_icge rfl rfl (fun c987 => absurd c987 (by decide)) (fun c987 => ?_)
                refine q_aload_n rfl rfl rfl ?_
                refine q_getf rfl rfl (by decide) (FW_46 S hW) rfl ?_
                refine q_bipush rfl rfl ?_
                refine q_iload_n rfl rfl rfl ?_
                refine q_imul rfl rfl (q_tn (z := 300) rfl ?_)
                refine q_iload_n rfl rfl rfl ?_
                refine q_iadd rfl rfl (q_tn (z := 314) rfl ?_)
                refine q_lconst rfl rfl ?_
                refine q_last rfl rfl (by decide) rfl (by decide) ?_
                refine q_icc2 (z := 15) rfl rfl rfl rfl rfl ?_
                refine q_goto rfl ?_
                refine q_iload_n rfl rfl rfl ?_
                refine q_bipush rfl rfl ?_
                refine q_icge rfl rfl (fun c988 => absurd c988 (by decide)) (fun c988 => ?_)
                refine q_aload_n rfl rfl rfl ?_
                refine q_getf rfl rfl (by decide) (FW_46 S hW) rfl ?_
                refine q_bipush rfl rfl ?_
                refine q_iload_n rfl rfl rfl ?_
                refine q_imul rfl rfl (q_tn (z := 300) rfl ?_)
                refine q_iload_n rfl rfl rfl ?_
                refine q_iadd rfl rfl (q_tn (z := 315) rfl ?_)
                refine q_lconst rfl rfl ?_
                refine q_last rfl rfl (by decide) rfl (by decide) ?_
                refine q_icc2 (z := 16) rfl rfl rfl rfl rfl ?_
                refine q_goto rfl ?_
                refine q_iload_n rfl rfl rfl ?_
                refine q_bipush rfl rfl ?_
                refine q_icge rfl rfl (fun c989 => absurd c989 (by decide)) (fun c989 => ?_)
                refine q_aload_n rfl rfl rfl ?_
                refine q_getf rfl rfl (by decide) (FW_46 S hW) rfl ?_
                refine q_bipush rfl rfl ?_
                refine q_iload_n rfl rfl rfl ?_
                refine q_imul rfl rfl (q_tn (z := 300) rfl ?_)
                refine q_iload_n rfl rfl rfl ?_
                refine q_iadd rfl rfl (q_tn (z := 316) rfl ?_)
                refine q_lconst rfl rfl ?_
                refine q_last rfl rfl (by decide) rfl (by decide) ?_
                refine q_icc2 (z := 17) rfl rfl rfl rfl rfl ?_
                refine q_goto rfl ?_
                refine q_iload_n rfl rfl rfl ?_
                refine q_bipush rfl rfl ?_
                refine q_icge rfl rfl (fun c990 => absurd c990 (by decide)) (fun c990 => ?_)
                refine q_aload_n rfl rfl rfl ?_
                refine q_getf rfl rfl (by decide) (FW_46 S hW) rfl ?_
                refine q_bipush rfl rfl ?_
                refine q_iload_n rfl rfl rfl ?_
                refine q_imul rfl rfl (q_tn (z := 300) rfl ?_)
                refine q_iload_n rfl rfl rfl ?_
                refine q_iadd rfl rfl (q_tn (z := 317) rfl ?_)
                refine q_lconst rfl rfl ?_
                refine q_last rfl rfl (by decide) rfl (by decide) ?_
                refine q_icc2 (z := 18) rfl rfl rfl rfl rfl ?_
                refine q_goto rfl ?_
                refine q_iload_n rfl rfl rfl ?_
                refine q_bipush rfl rfl ?_
                refine q_icge rfl rfl (fun c991 => absurd c991 (by decide)) (fun c991 => ?_)
                refine q_aload_n rfl rfl rfl ?_
                refine q_getf rfl rfl (by decide) (FW_46 S hW) rfl ?_
                refine q_bipush rfl rfl ?_
                refine q_iload_n rfl rfl rfl ?_
                refine q_imul rfl rfl (q_tn (z := 300) rfl ?_)
                refine q_iload_n rfl rfl rfl ?_
                refine q_iadd rfl rfl (q_tn (z := 318) rfl ?_)
                refine q_lconst rfl rfl ?_
                refine q_last rfl rfl (by decide) rfl (by decide) ?_
                refine q_icc2 (z := 19) rfl rfl rfl rfl rfl ?_
                refine q_goto rfl ?_
                refine q_iload_n rfl rfl rfl ?_
                refine q_bipush rfl rfl ?_
                refine q_icge rfl rfl (fun c992 => absurd c992 (by decide)) (fun c992 => ?_)
                refine q_aload_n rfl rfl rfl ?_
                refine q_getf rfl rfl (by decide) (FW_46 S hW) rfl ?_
                refine q_bipush rfl rfl ?_
                refine q_iload_n rfl rfl rfl ?_
                refine q_imul rfl rfl (q_tn (z := 300) rfl ?_)
                refine q_iload_n rfl rfl rfl ?_
                refine q_iadd rfl rfl (q_tn (z := 319) rfl ?_)
                refine q_lconst rfl rfl ?_
                refine q_last rfl rfl (by decide) rfl (by decide) ?_
                refine q_icc2 (z := 20) rfl rfl rfl rfl rfl ?_
                refine q_goto rfl ?_
                refine q_iload_n rfl rfl rfl ?_
                refine q_bipush rfl rfl ?_
                refine q_icge rfl rfl (fun c993 => absurd c993 (by decide)) (fun c993 => ?_)
                refine q_aload_n rfl rfl rfl ?_
                refine q_getf rfl rfl (by decide) (FW_46 S hW) rfl ?_
                refine q_bipush rfl rfl ?_
                refine q_iload_n rfl rfl rfl ?_
                refine q_imul rfl rfl (q_tn (z := 300) rfl ?_)
                refine q_iload_n rfl rfl rfl ?_
                refine q_iadd rfl rfl (q_tn (z := 320) rfl ?_)
                refine q_lconst rfl rfl ?_
                refine q_last rfl rfl (by decide) rfl (by decide) ?_
                refine q_icc2 (z := 21) rfl rfl rfl rfl rfl ?_
                refine q_goto rfl ?_
                refine q_iload_n rfl rfl rfl ?_
                refine q_bipush rfl rfl ?_
                refine q_icge rfl rfl (fun c994 => absurd c994 (by decide)) (fun c994 => ?_)
                refine q_aload_n rfl rfl rfl ?_
                refine q_getf rfl rfl (by decide) (FW_46 S hW) rfl ?_
                refine q_bipush rfl rfl ?_
                refine q_iload_n rfl rfl rfl ?_
                refine q_imul rfl rfl (q_tn (z := 300) rfl ?_)
                refine q_iload_n rfl rfl rfl ?_
                refine q_iadd rfl rfl (q_tn (z := 321) rfl ?_)
                refine q_lconst rfl rfl ?_
                refine q_last rfl rfl (by decide) rfl (by decide) ?_
                refine q_icc2 (z := 22) rfl rfl rfl rfl rfl ?_
                refine q_goto rfl ?_
                refine q_iload_n rfl rfl rfl ?_
                refine q_bipush rfl rfl ?_
                refine q_icge rfl rfl (fun c995 => absurd c995 (by decide)) (fun c995 => ?_)
                refine q_aload_n rfl rfl rfl ?_
                refine q_getf rfl rfl (by decide) (FW_46 S hW) rfl ?_
                refine q_bipush rfl rfl ?_
                refine q_iload_n rfl rfl rfl ?_
                refine q_imul rfl rfl (q_tn (z := 300) rfl ?_)
                refine q_iload_n rfl rfl rfl ?_
                refine q_iadd rfl rfl (q_tn (z := 322) rfl ?_)
                refine q_lconst rfl rfl ?_
                refine q_last rfl rfl (by decide) rfl (by decide) ?_
                refine q_icc2 (z := 23) rfl rfl rfl rfl rfl ?_
                refine q_goto rfl ?_
                refine q_iload_n rfl rfl rfl ?_
                refine q_bipush rfl rfl ?_
                refine q_icge rfl rfl (fun c996 => absurd c996 (by decide)) (fun c996 => ?_)
                refine q_aload_n rfl rfl rfl ?_
                refine q_getf rfl rfl (by decide) (FW_46 S hW) rfl ?_
                refine q_bipush rfl rfl ?_
                refine q_iload_n rfl rfl rfl ?_
                refine q_imul rfl rfl (q_tn (z := 300) rfl ?_)
                refine q_iload_n rfl rfl rfl ?_
                refine q_iadd rfl rfl (q_tn (z := 323) rfl ?_)
                refine q_lconst rfl rfl ?_
                refine q_last rfl rfl (by decide) rfl (by decide) ?_
                refine q_icc2 (z := 24) rfl rfl rfl rfl rfl ?_
                refine q_goto rfl ?_
                refine q_iload_n rfl rfl rfl ?_
                refine q_bipush rfl rfl ?_
                refine q_icge rfl rfl (fun c997 => absurd c997 (by decide)) (fun c997 => ?_)
                refine q_aload_n rfl rfl rfl ?_
                refine q_getf rfl rfl (by decide) (FW_46 S hW) rfl ?_
                refine q_bipush rfl rfl ?_
                refine q_iload_n rfl rfl rfl ?_
                refine q_imul rfl rfl (q_tn (z := 300) rfl ?_)
                refine q_iload_n rfl rfl rfl ?_
                refine q_iadd rfl rfl (q_tn (z := 324) rfl ?_)
                refine q_lconst rfl rfl ?_
                refine q_last rfl rfl (by decide) rfl (by decide) ?_
                refine q_icc2 (z := 25) rfl rfl rfl rfl rfl ?_
                refine q_goto rfl ?_
                refine q_iload_n rfl rfl rfl ?_
                refine q_bipush rfl rfl ?_
                refine q_icge rfl rfl (fun c998 => absurd c998 (by decide)) (fun c998 => ?_)
                refine q_aload_n rfl rfl rfl ?_
                refine q_getf rfl rfl (by decide) (FW_46 S hW) rfl ?_
                refine q_bipush rfl rfl ?_
                refine q_iload_n rfl rfl rfl ?_
                refine q_imul rfl rfl (q_tn (z := 300) rfl ?_)
                refine q_iload_n rfl rfl rfl ?_
                refine q_iadd rfl rfl (q_tn (z := 325) rfl ?_)
                refine q_lconst rfl rfl ?_
                refine q_last rfl rfl (by decide) rfl (by decide) ?_
                refine q_icc2 (z := 26) rfl rfl rfl rfl rfl ?_
                refine q_goto rfl ?_
                refine q_iload_n rfl rfl rfl ?_
                refine q_bipush rfl rfl ?_
                refine q_icge rfl rfl (fun c999 => absurd c999 (by decide)) (fun c999 => ?_)
                refine q_aload_n rfl rfl rfl ?_
                refine q_getf rfl rfl (by decide) (FW_46 S hW) rfl ?_
                refine q_bipush rfl rfl ?_
                refine q_iload_n rfl rfl rfl ?_
                refine q_imul rfl rfl (q_tn (z := 300) rfl ?_)
                refine q_iload_n rfl rfl rfl ?_
                refine q_iadd rfl rfl (q_tn (z := 326) rfl ?_)
                refine q_lconst rfl rfl ?_
                refine q_last rfl rfl (by decide) rfl (by decide) ?_
                refine q_icc2 (z := 27) rfl rfl rfl rfl rfl ?_
                refine q_goto rfl ?_
                refine q_iload_n rfl rfl rfl ?_
                refine q_bipush rfl rfl ?_
                refine q_icge rfl rfl (fun c1000 => absurd c1000 (by decide)) (fun c1000 => ?_)
                refine q_aload_n rfl rfl rfl ?_
                refine q_getf rfl rfl (by decide) (FW_46 S hW) rfl ?_
                refine q_bipush rfl rfl ?_
                refine q_iload_n rfl rfl rfl ?_
                refine q_imul rfl rfl (q_tn (z := 300) rfl ?_)
                refine q_iload_n rfl rfl rfl ?_
                refine q_iadd rfl rfl (q_tn (z := 327) rfl ?_)
                refine q_lconst rfl rfl ?_
                refine q_last rfl rfl (by decide) rfl (by decide) ?_
                refine q_icc2 (z := 28) rfl rfl rfl rfl rfl ?_
                refine q_goto rfl ?_
                refine q_iload_n rfl rfl rfl ?_
                refine q_bipush rfl rfl ?_
                refine q_icge rfl rfl (fun c1001 => absurd c1001 (by decide)) (fun c1001 => ?_)
                refine q_aload_n rfl rfl rfl ?_
                refine q_getf rfl rfl (by decide) (FW_46 S hW) rfl ?_
                refine q_bipush rfl rfl ?_
                refine q_iload_n rfl rfl rfl ?_
                refine q_imul rfl rfl (q_tn (z := 300) rfl ?_)
                refine q_iload_n rfl rfl rfl ?_
                refine q_iadd rfl rfl (q_tn (z := 328) rfl ?_)
                refine q_lconst rfl rfl ?_
                refine q_last rfl rfl (by decide) rfl (by decide) ?_
                refine q_icc2 (z := 29) rfl rfl rfl rfl rfl ?_
                refine q_goto rfl ?_
                refine q_iload_n rfl rfl rfl ?_
                refine q_bipush rfl rfl ?_
                refine q_icge rfl rfl (fun c1002 => absurd c1002 (by decide)) (fun c1002 => ?_)
                refine q_aload_n rfl rfl rfl ?_
                refine q_getf rfl rfl (by decide) (FW_46 S hW) rfl ?_
                refine q_bipush rfl rfl ?_
                refine q_iload_n rfl rfl rfl ?_
                refine q_imul rfl rfl (q_tn (z := 300) rfl ?_)
                refine q_iload_n rfl rfl rfl ?_
                refine q_iadd rfl rfl (q_tn (z := 329) rfl ?_)
                refine q_lconst rfl rfl ?_
                refine q_last rfl rfl (by decide) rfl (by decide) ?_
                refine q_icc2 (z := 30) rfl rfl rfl rfl rfl ?_
                refine q_goto rfl ?_
                refine q_iload_n rfl rfl rfl ?_
                refine q_bipush rfl rfl ?_
                refine q_icge rfl rfl (fun c1003 => absurd c1003 (by decide)) (fun c1003 => ?_)
                refine q_aload_n rfl rfl rfl ?_
                refine q_getf rfl rfl (by decide) (FW_46 S hW) rfl ?_
                refine q_bipush rfl rfl ?_
                refine q_iload_n rfl rfl rfl ?_
                refine q_imul rfl rfl (q_tn (z := 300) rfl ?_)
                refine q_iload_n rfl rfl rfl ?_
                refine q_iadd rfl rfl (q_tn (z := 330) rfl ?_)
                refine q_lconst rfl rfl ?_
                refine q_last rfl rfl (by decide) rfl (by decide) ?_
                refine q_icc2 (z := 31) rfl rfl rfl rfl rfl ?_
                refine q_goto rfl ?_
                refine q_iload_n rfl rfl rfl ?_
                refine q_bipush rfl rfl ?_
                refine q_icge rfl rfl (fun c1004 => absurd c1004 (by decide)) (fun c1004 => ?_)
                refine q_aload_n rfl rfl rfl ?_
                refine q_getf rfl rfl (by decide) (FW_46 S hW) rfl ?_
                refine q_bipush rfl rfl ?_
                refine q_iload_n rfl rfl rfl ?_
                refine q_imul rfl rfl (q_tn (z := 300) rfl ?_)
                refine q_iload_n rfl rfl rfl ?_
                refine q_iadd rfl rfl (q_tn (z := 331) rfl ?_)
                refine q_lconst rfl rfl ?_
                refine q_last rfl rfl (by decide) rfl (by decide) ?_
                refine q_icc2 (z := 32) rfl rfl rfl rfl rfl ?_
                refine q_goto rfl ?_
                refine q_iload_n rfl rfl rfl ?_
                refine q_bipush rfl rfl ?_
                refine q_icge rfl rfl (fun c1005 => absurd c1005 (by decide)) (fun c1005 => ?_)
                refine q_aload_n rfl rfl rfl ?_
                refine q_getf rfl rfl (by decide) (FW_46 S hW) rfl ?_
                refine q_bipush rfl rfl ?_
                refine q_iload_n rfl rfl rfl ?_
                refine q_imul rfl rfl (q_tn (z := 300) rfl ?_)
                refine q_iload_n rfl rfl rfl ?_
                refine q_iadd rfl rfl (q_tn (z := 332) rfl ?_)
                refine q_lconst rfl rfl ?_
                refine q_last rfl rfl (by decide) rfl (by decide) ?_
                refine q_icc2 (z := 33) rfl rfl rfl rfl rfl ?_
                refine q_goto rfl ?_
                refine q_iload_n rfl rfl rfl ?_
                refine q_bipush rfl rfl ?_
                refine q_icge rfl rfl (fun c1006 => absurd c1006 (by decide)) (fun c1006 => ?_)
                refine q_aload_n rfl rfl rfl ?_
                refine q_getf rfl rfl (by decide) (FW_46 S hW) rfl ?_
                refine q_bipush rfl rfl ?_
                refine q_iload_n rfl rfl rfl ?_
                refine q_imul rfl rfl (q_tn (z := 300) rfl ?_)
                refine q_iload_n rfl rfl rfl ?_
                refine q_iadd rfl rfl (q_tn (z := 333) rfl ?_)
                refine q_lconst rfl rfl ?_
                refine q_last rfl rfl (by decide) rfl (by decide) ?_
                refine q_icc2 (z := 34) rfl rfl rfl rfl rfl ?_
                refine q_goto rfl ?_
                refine q_iload_n rfl rfl rfl ?_
                refine q_bipush rfl rfl ?_
                refine q_icge rfl rfl (fun c1007 => absurd c1007 (by decide)) (fun c1007 => ?_)
                refine q_aload_n rfl rfl rfl ?_
                refine q_getf rfl rfl (by decide) (FW_46 S hW) rfl ?_
                refine q_bipush rfl rfl ?_
                refine q_iload_n rfl rfl rfl ?_
                refine q_imul rfl rfl (q_tn (z := 300) rfl ?_)
                refine q_iload_n rfl rfl rfl ?_
                refine q_iadd rfl rfl (q_tn (z := 334) rfl ?_)
                refine q_lconst rfl rfl ?_
                refine q_last rfl rfl (by decide) rfl (by decide) ?_
                refine q_icc2 (z := 35) rfl rfl rfl rfl rfl ?_
                refine q_goto rfl ?_
                refine q_iload_n rfl rfl rfl ?_
                refine q_bipush rfl rfl ?_
                refine q_icge rfl rfl (fun c1008 => absurd c1008 (by decide)) (fun c1008 => ?_)
                refine q_aload_n rfl rfl rfl ?_
                refine q_getf rfl rfl (by decide) (FW_46 S hW) rfl ?_
                refine q_bipush rfl rfl ?_
                refine q_iload_n rfl rfl rfl ?_
                refine q_imul rfl rfl (q_tn (z := 300) rfl ?_)
                refine q_iload_n rfl rfl rfl ?_
                refine q_iadd rfl rfl (q_tn (z := 335) rfl ?_)
                refine q_lconst rfl rfl ?_
                refine q_last rfl rfl (by decide) rfl (by decide) ?_
                refine q_icc2 (z := 36) rfl rfl rfl rfl rfl ?_
                refine q_goto rfl ?_
                refine q_iload_n rfl rfl rfl ?_
                refine q_bipush rfl rfl ?_
                refine q_icge rfl rfl (fun c1009 => absurd c1009 (by decide)) (fun c1009 => ?_)
                refine q_aload_n rfl rfl rfl ?_
                refine q_getf rfl rfl (by decide) (FW_46 S hW) rfl ?_
                refine q_bipush rfl rfl ?_
                refine q_iload_n rfl rfl rfl ?_
                refine q_imul rfl rfl (q_tn (z := 300) rfl ?_)
                refine q_iload_n rfl rfl rfl ?_
                refine q_iadd rfl rfl (q_tn (z := 336) rfl ?_)
                refine q_lconst rfl rfl ?_
                refine q_last rfl rfl (by decide) rfl (by decide) ?_
                refine q_icc2 (z := 37) rfl rfl rfl rfl rfl ?_
                refine q_goto rfl ?_
                refine q_iload_n rfl rfl rfl ?_
                refine q_bipush rfl rfl ?_
                refine q_icge rfl rfl (fun c1010 => absurd c1010 (by decide)) (fun c1010 => ?_)
                refine q_aload_n rfl rfl rfl ?_
                refine q_getf rfl rfl (by decide) (FW_46 S hW) rfl ?_
                refine q_bipush rfl rfl ?_
                refine q_iload_n rfl rfl rfl ?_
                refine q_imul rfl rfl (q_tn (z := 300) rfl ?_)
                refine q_iload_n rfl rfl rfl ?_
                refine q_iadd rfl rfl (q_tn (z := 337) rfl ?_)
                refine q_lconst rfl rfl ?_
                refine q_last rfl rfl (by decide) rfl (by decide) ?_
                refine q_icc2 (z := 38) rfl rfl rfl rfl rfl ?_
                refine q_goto rfl ?_
                refine q_iload_n rfl rfl rfl ?_
                refine q_bipush rfl rfl ?_
                refine q_icge rfl rfl (fun c1011 => absurd c1011 (by decide)) (fun c1011 => ?_)
                refine q_aload_n rfl rfl rfl ?_
                refine q_getf rfl rfl (by decide) (FW_46 S hW) rfl ?_
                refine q_bipush rfl rfl ?_
                refine q_iload_n rfl rfl rfl ?_
                refine q_imul rfl rfl (q_tn (z := 300) rfl ?_)
                refine q_iload_n rfl rfl rfl ?_
                refine q_iadd rfl rfl (q_tn (z := 338) rfl ?_)
                refine q_lconst rfl rfl ?_
                refine q_last rfl rfl (by decide) rfl (by decide) ?_
                refine q_icc2 (z := 39) rfl rfl rfl rfl rfl ?_
                refine q_goto rfl ?_
                refine q_iload_n rfl rfl rfl ?_
                refine q_bipush rfl rfl ?_
                refine q_icge rfl rfl (fun c1012 => absurd c1012 (by decide)) (fun c1012 => ?_)
                refine q_aload_n rfl rfl rfl ?_
                refine q_getf rfl rfl (by decide) (FW_46 S hW) rfl ?_
                refine q_bipush rfl rfl ?_
                refine q_iload_n rfl rfl rfl ?_
                refine q_imul rfl rfl (q_tn (z := 300) rfl ?_)
                refine q_iload_n rfl rfl rfl ?_
                refine q_iadd rfl rfl (q_tn (z := 339) rfl ?_)
                refine q_lconst rfl rfl ?_
                refine q_last rfl rfl (by decide) rfl (by decide) ?_
                refine q_icc2 (z := 40) rfl rfl rfl rfl rfl ?_
                refine q_goto rfl ?_
                refine q_iload_n rfl rfl rfl ?_
                refine q_bipush rfl rfl ?_
                refine q_icge rfl rfl (fun c1013 => absurd c1013 (by decide)) (fun c1013 => ?_)
                refine q_aload_n rfl rfl rfl ?_
                refine q_getf rfl rfl (by decide) (FW_46 S hW) rfl ?_
                refine q_bipush rfl rfl ?_
                refine q_iload_n rfl rfl rfl ?_
                refine q_imul rfl rfl (q_tn (z := 300) rfl ?_)
                refine q_iload_n rfl rfl rfl ?_
                refine q_iadd rfl rfl (q_tn (z := 340) rfl ?_)
                refine q_lconst rfl rfl ?_
                refine q_last rfl rfl (by decide) rfl (by decide) ?_
                refine q_icc2 (z := 41) rfl rfl rfl rfl rfl ?_
                refine q_goto rfl ?_
                refine q_iload_n rfl rfl rfl ?_
                refine q_bipush rfl rfl ?_
                refine q_icge rfl rfl (fun c1014 => absurd c1014 (by decide)) (fun c1014 => ?_)
                refine q_aload_n rfl rfl rfl ?_
                refine q_getf rfl rfl (by decide) (FW_46 S hW) rfl ?_
                refine q_bipush rfl rfl ?_
                refine q_iload_n rfl rfl rfl ?_
                refine q_imul rfl rfl (q_tn (z := 300) rfl ?_)
                refine q_iload_n rfl rfl rfl ?_
                refine q_iadd rfl rfl (q_tn (z := 341) rfl ?_)
                refine q_lconst rfl rfl ?_
                refine q_last rfl rfl (by decide) rfl (by decide) ?_
                refine q_icc2 (z := 42) rfl rfl rfl rfl rfl ?_
                refine q_goto rfl ?_
                refine q_iload_n rfl rfl rfl ?_
                refine q_bipush rfl rfl ?_
                refine q_icge rfl rfl (fun c1015 => absurd c1015 (by decide)) (fun c1015 => ?_)
                refine q_aload_n rfl rfl rfl ?_
                refine q_getf rfl rfl (by decide) (FW_46 S hW) rfl ?_
                refine q_bipush rfl rfl ?_
                refine q_iload_n rfl rfl rfl ?_
                refine q_imul rfl rfl (q_tn (z := 300) rfl ?_)
                refine q_iload_n rfl rfl rfl ?_
                refine q_iadd rfl rfl (q_tn (z := 342) rfl ?_)
                refine q_lconst rfl rfl ?_
                refine q_last rfl rfl (by decide) rfl (by decide) ?_
                refine q_icc2 (z := 43) rfl rfl rfl rfl rfl ?_
                refine q_goto rfl ?_
                refine q_iload_n rfl rfl rfl ?_
                refine q_bipush rfl rfl ?_
                refine q_icge rfl rfl (fun c1016 => absurd c1016 (by decide)) (fun c1016 => ?_)
                refine q_aload_n rfl rfl rfl ?_
                refine q_getf rfl rfl (by decide) (FW_46 S hW) rfl ?_
                refine q_bipush rfl rfl ?_
                refine q_iload_n rfl rfl rfl ?_
                refine q_imul rfl rfl (q_tn (z := 300) rfl ?_)
                refine q_iload_n rfl rfl rfl ?_
                refine q_iadd rfl rfl (q_tn (z := 343) rfl ?_)
                refine q_lconst rfl rfl ?_
                refine q_last rfl rfl (by decide) rfl (by decide) ?_
                refine q_icc2 (z := 44) rfl rfl rfl rfl rfl ?_
                refine q_goto rfl ?_
                refine q_iload_n rfl rfl rfl ?_
                refine q_bipush rfl rfl ?_
                refine q_icge rfl rfl (fun c1017 => absurd c1017 (by decide)) (fun c1017 => ?_)
                refine q_aload_n rfl rfl rfl ?_
                refine q_getf rfl rfl (by decide) (FW_46 S hW) rfl ?_
                refine q_bipush rfl rfl ?_
                refine q_iload_n rfl rfl rfl ?_
                refine q_imul rfl rfl (q_tn (z := 300) rfl ?_)
                refine q_iload_n rfl rfl rfl ?_
                refine q_iadd rfl rfl (q_tn (z := 344) rfl ?_)
                refine q_lconst rfl rfl ?_
                refine q_last rfl rfl (by decide) rfl (by decide) ?_
                refine q_icc2 (z := 45) rfl rfl rfl rfl rfl ?_
                refine q_goto rfl ?_
                refine q_iload_n rfl rfl rfl ?_
                refine q_bipush rfl rfl ?_
                refine q_icge rfl rfl (fun c1018 => absurd c1018 (by decide)) (fun c1018 => ?_)
                refine q_aload_n rfl rfl rfl ?_
                refine q_getf rfl rfl (by decide) (FW_46 S hW) rfl ?_
                refine q_bipush rfl rfl ?_
                refine q_iload_n rfl rfl rfl ?_
                refine q_imul rfl rfl (q_tn (z := 300) rfl ?_)
                refine q_iload_n rfl rfl rfl ?_
                refine q_iadd rfl rfl (q_tn (z := 345) rfl ?_)
                refine q_lconst rfl rfl ?_
                refine q_last rfl rfl (by decide) rfl (by decide) ?_
                refine q_icc2 (z := 46) rfl rfl rfl rfl rfl ?_
                refine q_goto rfl ?_
                refine q_iload_n rfl rfl rfl ?_
                refine q_bipush rfl rfl ?_
                refine q_icge rfl rfl (fun c1019 => absurd c1019 (by decide)) (fun c1019 => ?_)
                refine q_aload_n rfl rfl rfl ?_
                refine q_getf rfl rfl (by decide) (FW_46 S hW) rfl ?_
                refine q_bipush rfl rfl ?_
                refine q_iload_n rfl rfl rfl ?_
                refine q_imul rfl rfl (q_tn (z := 300) rfl ?_)
                refine q_iload_n rfl rfl rfl ?_
                refine q_iadd rfl rfl (q_tn (z := 346) rfl ?_)
                refine q_lconst rfl rfl ?_
                refine q_last rfl rfl (by decide) rfl (by decide) ?_
                refine q_icc2 (z := 47) rfl rfl rfl rfl rfl ?_
                refine q_goto rfl ?_
                refine q_iload_n rfl rfl rfl ?_
                refine q_bipush rfl rfl ?_
                refine q_icge rfl rfl (fun c1020 => absurd c1020 (by decide)) (fun c1020 => ?_)
                refine q_aload_n rfl rfl rfl ?_
                refine q_getf rfl rfl (by decide) (FW_46 S hW) rfl ?_
                refine q_bipush rfl rfl ?_
                refine q_iload_n rfl rfl rfl ?_
                refine q_imul rfl rfl (q_tn (z := 300) rfl ?_)
                refine q_iload_n rfl rfl rfl ?_
                refine q_iadd rfl rfl (q_tn (z := 347) rfl ?_)
                refine q_lconst rfl rfl ?_
                refine q_last rfl rfl (by decide) rfl (by decide) ?_
                refine q_icc2 (z := 48) rfl rfl rfl rfl rfl ?_
                refine q_goto rfl ?_
                refine q_iload_n rfl rfl rfl ?_
                refine q_bipush rfl rfl ?_
                refine q_icge rfl rfl (fun c1021 => absurd c1021 (by decide)) (fun c1021 => ?_)
                refine q_aload_n rfl rfl rfl ?_
                refine q_getf rfl rfl (by decide) (FW_46 S hW) rfl ?_
                refine q_bipush rfl rfl ?_
                refine q_iload_n rfl rfl rfl ?_
                refine q_imul rfl rfl (q_tn (z := 300) rfl ?_)
                refine q_iload_n rfl rfl rfl ?_
                refine q_iadd rfl rfl (q_tn (z := 348) rfl ?_)
                refine q_lconst rfl rfl ?_
                refine q_last rfl rfl (by decide) rfl (by decide) ?_
                refine q_icc2 (z := 49) rfl rfl rfl rfl rfl ?_
                refine q_goto rfl ?_
                refine q_iload_n rfl rfl rfl ?_
                refine q_bipush rfl rfl ?_
                refine q_icge rfl rfl (fun c1022 => absurd c1022 (by decide)) (fun c1022 => ?_)
                refine q_aload_n rfl rfl rfl ?_
                refine q_getf rfl rfl (by decide) (FW_46 S hW) rfl ?_
                refine q_bipush rfl rfl ?_
                refine q_iload_n rfl rfl rfl ?_
                refine q_imul rfl rfl (q_tn (z := 300) rfl ?_)
                refine q_iload_n rfl rfl rfl ?_
                refine q_iadd rfl rfl (q_tn (z := 349) rfl ?_)
                refine q_lconst rfl rfl ?_
                refine q_last rfl rfl (by decide) rfl (by decide) ?_
                refine q_icc2 (z := 50) rfl rfl rfl rfl rfl ?_
                refine q_goto rfl ?_
                refine q_iload_n rfl rfl rfl ?_
                refine q_bipush rfl rfl ?_
                refine q_icge rfl rfl (fun c1023 => absurd c1023 (by decide)) (fun c1023 => ?_)
                refine q_aload_n rfl rfl rfl ?_
                refine q_getf rfl rfl (by decide) (FW_46 S hW) rfl ?_
                refine q_bipush rfl rfl ?_
                refine q_iload_n rfl rfl rfl ?_
                refine q_imul rfl rfl (q_tn (z := 300) rfl ?_)
                refine q_iload_n rfl rfl rfl ?_
                refine q_iadd rfl rfl (q_tn (z := 350) rfl ?_)
                refine q_lconst rfl rfl ?_
                refine q_last rfl rfl (by decide) rfl (by decide) ?_
                refine q_icc2 (z := 51) rfl rfl rfl rfl rfl ?_
                refine q_goto rfl ?_
                refine q_iload_n rfl rfl rfl ?_
                refine q_bipush rfl rfl ?_
                refine q_icge rfl rfl (fun c1024 => absurd c1024 (by decide)) (fun c1024 => ?_)
                refine q_aload_n rfl rfl rfl ?_
                refine q_getf rfl rfl (by decide) (FW_46 S hW) rfl ?_
                refine q_bipush rfl rfl ?_
                refine q_iload_n rfl rfl rfl ?_
                refine q_imul rfl rfl (q_tn (z := 300) rfl ?_)
                refine q_iload_n rfl rfl rfl ?_
                refine q_iadd rfl rfl (q_tn (z := 351) rfl ?_)
                refine q_lconst rfl rfl ?_
                refine q_last rfl rfl (by decide) rfl (by decide) ?_
                refine q_icc2 (z := 52) rfl rfl rfl rfl rfl ?_
                refine q_goto rfl ?_
                refine q_iload_n rfl rfl rfl ?_
                refine q_bipush rfl rfl ?_
                refine q_icge rfl rfl (fun c1025 => absurd c1025 (by decide)) (fun c1025 => ?_)
                refine q_aload_n rfl rfl rfl ?_
                refine q_getf rfl rfl (by decide) (FW_46 S hW) rfl ?_
                refine q_bipush rfl rfl ?_
                refine q_iload_n rfl rfl rfl ?_
                refine q_imul rfl rfl (q_tn (z := 300) rfl ?_)
                refine q_iload_n rfl rfl rfl ?_
                refine q_iadd rfl rfl (q_tn (z := 352) rfl ?_)
                refine q_lconst rfl rfl ?_
                refine q_last rfl rfl (by decide) rfl (by decide) ?_
                refine q_icc2 (z := 53) rfl rfl rfl rfl rfl ?_
                refine q_goto rfl ?_
                refine q_iload_n rfl rfl rfl ?_
                refine q_bipush rfl rfl ?_
                refine q_icge rfl rfl (fun c1026 => absurd c1026 (by decide)) (fun c1026 => ?_)
                refine q_aload_n rfl rfl rfl ?_
                refine q_getf rfl rfl (by decide) (FW_46 S hW) rfl ?_
                refine q_bipush rfl rfl ?_
                refine q_iload_n rfl rfl rfl ?_
                refine q_imul rfl rfl (q_tn (z := 300) rfl ?_)
                refine q_iload_n rfl rfl rfl ?_
                refine q_iadd rfl rfl (q_tn (z := 353) rfl ?_)
                refine q_lconst rfl rfl ?_
                refine q_last rfl rfl (by decide) rfl (by decide) ?_
                refine q_icc2 (z := 54) rfl rfl rfl rfl rfl ?_
                refine q_goto rfl ?_
                refine q_iload_n rfl rfl rfl ?_
                refine q_bipush rfl rfl ?_
                refine q_icge rfl rfl (fun c1027 => absurd c1027 (by decide)) (fun c1027 => ?_)
                refine q_aload_n rfl rfl rfl ?_
                refine q_getf rfl rfl (by decide) (FW_46 S hW) rfl ?_
                refine q_bipush rfl rfl ?_
                refine q_iload_n rfl rfl rfl ?_
                refine q_imul rfl rfl (q_tn (z := 300) rfl ?_)
                refine q_iload_n rfl rfl rfl ?_
                refine q_iadd rfl rfl (q_tn (z := 354) rfl ?_)
                refine q_lconst rfl rfl ?_
                refine q_last rfl rfl (by decide) rfl (by decide) ?_
                refine q_icc2 (z := 55) rfl rfl rfl rfl rfl ?_
                refine q_goto rfl ?_
                refine q_iload_n rfl rfl rfl ?_
                refine q_bipush rfl rfl ?_
                refine q_icge rfl rfl (fun c1028 => absurd c1028 (by decide)) (fun c1028 => ?_)
                refine q_aload_n rfl rfl rfl ?_
                refine q_getf rfl rfl (by decide) (FW_46 S hW) rfl ?_
                refine q_bipush rfl rfl ?_
                refine q_iload_n rfl rfl rfl ?_
                refine q_imul rfl rfl (q_tn (z := 300) rfl ?_)
                refine q_iload_n rfl rfl rfl ?_
                refine q_iadd rfl rfl (q_tn (z := 355) rfl ?_)
                refine q_lconst rfl rfl ?_
                refine q_last rfl rfl (by decide) rfl (by decide) ?_
                refine q_icc2 (z := 56) rfl rfl rfl rfl rfl ?_
                refine q_goto rfl ?_
                refine q_iload_n rfl rfl rfl ?_
                refine q_bipush rfl rfl ?_
                refine q_icge rfl rfl (fun c1029 => absurd c1029 (by decide)) (fun c1029 => ?_)
                refine q_aload_n rfl rfl rfl ?_
                refine q_getf rfl rfl (by decide) (FW_46 S hW) rfl ?_
                refine q_bipush rfl rfl ?_
                refine q_iload_n rfl rfl rfl ?_
                refine q_imul rfl rfl (q_tn (z := 300) rfl ?_)
                refine q_iload_n rfl rfl rfl ?_
                refine q_iadd rfl rfl (q_tn (z := 356) rfl ?_)
                refine q_lconst rfl rfl ?_
                refine q_last rfl rfl (by decide) rfl (by decide) ?_
                refine q_icc2 (z := 57) rfl rfl rfl rfl rfl ?_
                refine q_goto rfl ?_
                refine q_iload_n rfl rfl rfl ?_
                refine q_bipush rfl rfl ?_
                refine q_icge rfl rfl (fun c1030 => absurd c1030 (by decide)) (fun c1030 => ?_)
                refine q_aload_n rfl rfl rfl ?_
                refine q_getf rfl rfl (by decide) (FW_46 S hW) rfl ?_
                refine q_bipush rfl rfl ?_
                refine q_iload_n rfl rfl rfl ?_
                refine q_imul rfl rfl (q_tn (z := 300) rfl ?_)
                refine q_iload_n rfl rfl rfl ?_
                refine q_iadd rfl rfl (q_tn (z := 357) rfl ?_)
                refine q_lconst rfl rfl ?_
                refine q_last rfl rfl (by decide) rfl (by decide) ?_
                refine q_icc2 (z := 58) rfl rfl rfl rfl rfl ?_
                refine q_goto rfl ?_
                refine q_iload_n rfl rfl rfl ?_
                refine q_bipush rfl rfl ?_
                refine q_icge rfl rfl (fun c1031 => absurd c1031 (by decide)) (fun c1031 => ?_)
                refine q_aload_n rfl rfl rfl ?_
                refine q_getf rfl rfl (by decide) (FW_46 S hW) rfl ?_
                refine q_bipush rfl rfl ?_
                refine q_iload_n rfl rfl rfl ?_
                refine q_imul rfl rfl (q_tn (z := 300) rfl ?_)
                refine q_iload_n rfl rfl rfl ?_
                refine q_iadd rfl rfl (q_tn (z := 358) rfl ?_)
                refine q_lconst rfl rfl ?_
                refine q_last rfl rfl (by decide) rfl (by decide) ?_
                refine q_icc2 (z := 59) rfl rfl rfl rfl rfl ?_
                refine q_goto rfl ?_
                refine q_iload_n rfl rfl rfl ?_
                refine q_bipush rfl rfl ?_
                refine q_icge rfl rfl (fun c1032 => absurd c1032 (by decide)) (fun c1032 => ?_)
                refine q_aload_n rfl rfl rfl ?_
                refine q_getf rfl rfl (by decide) (FW_46 S hW) rfl ?_
                refine q_bipush rfl rfl ?_
                refine q_iload_n rfl rfl rfl ?_
                refine q_imul rfl rfl (q_tn (z := 300) rfl ?_)
                refine q_iload_n rfl rfl rfl ?_
                refine q_iadd rfl rfl (q_tn (z := 359) rfl ?_)
                refine q_lconst rfl rfl ?_
                refine q_last rfl rfl (by decide) rfl (by decide) ?_
                refine q_icc2 (z := 60) rfl rfl rfl rfl rfl ?_
                refine q_goto rfl ?_
                refine q_iload_n rfl rfl rfl ?_
                refine q_bipush rfl rfl ?_
                refine q_icge rfl rfl (fun c1033 => ?_) (fun c1033 => absurd (by decide) c1033)
                refine q_ret rfl rfl ?_
                refine ⟨rfl, ?_⟩
                refine q_iconst rfl rfl ?_
                refine q_iret rfl rfl trivial ?_
                refine ⟨_, rfl, ?_⟩
                refine q_iceq rfl rfl (fun c1034 => ?_) (fun c1034 => absurd (by decide) c1034)
                refine q_icc4 (z := 6) rfl rfl rfl rfl rfl ?_
                refine q_goto rfl ?_
                refine q_iload rfl rfl rfl ?_
                refine q_aload_nF rfl rfl rfl ?_
                refine q_alenX (x := 6) rfl rfl rfl ?_
                refine q_bipush rfl rfl ?_
                refine q_isub rfl rfl (q_tn (z := 0) rfl ?_)
                refine q_icgt rfl rfl (fun c1035 => ?_) (fun c1035 => absurd (by decide) c1035)
                refine q_iconst rfl rfl ?_
                refine q_iret rfl rfl rfl ?_
                exact hK _ _
              · refine q_aast rfl rfl (by decide) (by decide) (FW_43 S hW) rfl rfl (by decide) ?_
                refine q_iconst rfl rfl ?_
                refine q_iret rfl rfl trivial ?_
                refine ⟨_, rfl, ?_⟩
                refine q_aload_n rfl rfl rfl ?_
                refine q_aload_nF rfl rfl rfl ?_
                refine q_iload rfl rfl rfl ?_
                refine q_iconst rfl rfl ?_
                refine q_iadd rfl rfl (q_tn (z := 1) rfl ?_)
                refine q_ialdX (x := 6) rfl rfl rfl hx1 ?_
                refine q_aload_nF rfl rfl rfl ?_
                refine q_iload rfl rfl rfl ?_
                refine q_iconst rfl rfl ?_
                refine q_iadd rfl rfl (q_tn (z := 2) rfl ?_)
                refine q_ialdX (x := 4) rfl rfl rfl hx2 ?_
                refine q_aload_nF rfl rfl rfl ?_
                refine q_iload rfl rfl rfl ?_
                refine q_iconst rfl rfl ?_
                refine q_iadd rfl rfl (q_tn (z := 3) rfl ?_)
                refine q_ialdX (x := x3) rfl rfl rfl hx3 ?_
                refine q_nV3 rfl rfl (Or.inl rfl) rfl rfl rfl (by decide) (FW_46 S hW) ⟨rfl, rfl⟩ rfl ?_
                change PQ _ _ _ mm_X12_make 0 [.ref 46, .int 6, .int 4, .int x3] [] _ _ 0 0 _
                refine q_aload_n rfl rfl rfl ?_
                refine q_iload_n rfl rfl rfl ?_
                refine q_nV1 rfl rfl (Or.inl rfl) rfl rfl rfl (by decide) (FW_46 S hW) ⟨rfl, rfl⟩ rfl ?_
                change PQ _ _ _ mm_X12_isShelf 0 [.ref 46, .int 6] [] _ _ 0 0 _
                refine q_aload_n rfl rfl rfl ?_
                refine q_iload_n rfl rfl rfl ?_
                refine q_iconst rfl rfl ?_
                refine q_bipush rfl rfl ?_
                refine q_nV3 rfl rfl (Or.inl rfl) rfl rfl rfl (by decide) (FW_46 S hW) ⟨rfl, rfl⟩ rfl ?_
                change PQ _ _ _ mm_X12_in 0 [.ref 46, .int 6, .int 0, .int 7] [] _ _ 0 0 _
                refine q_iload_n rfl rfl rfl ?_
                refine q_iload_n rfl rfl rfl ?_
                refine q_iclt rfl rfl (fun c1036 => absurd c1036 (by decide)) (fun c1036 => ?_)
                refine q_iload_n rfl rfl rfl ?_
                refine q_iload_n rfl rfl rfl ?_
                refine q_icgt rfl rfl (fun c1037 => absurd c1037 (by decide)) (fun c1037 => ?_)
                refine q_iconst rfl rfl ?_
                refine q_goto rfl ?_
                refine q_iret rfl rfl rfl ?_
                refine ⟨_, rfl, ?_⟩
                refine q_iret rfl rfl rfl ?_
                refine ⟨_, rfl, ?_⟩
                refine q_ifeq rfl rfl (fun c1038 => absurd c1038 (by decide)) (fun c1038 => ?_)
                refine q_aload_n rfl rfl rfl ?_
                refine q_iload_n rfl rfl rfl ?_
                refine q_iconst rfl rfl ?_
                refine q_iconst rfl rfl ?_
                refine q_nV3 rfl rfl (Or.inl rfl) rfl rfl rfl (by decide) (FW_46 S hW) ⟨rfl, rfl⟩ rfl ?_
                change PQ _ _ _ mm_X12_in 0 [.ref 46, .int 4, .int 3, .int 4] [] _ _ 0 0 _
                refine q_iload_n rfl rfl rfl ?_
                refine q_iload_n rfl rfl rfl ?_
                refine q_iclt rfl rfl (fun c1039 => absurd c1039 (by decide)) (fun c1039 => ?_)
                refine q_iload_n rfl rfl rfl ?_
                refine q_iload_n rfl rfl rfl ?_
                refine q_icgt rfl rfl (fun c1040 => absurd c1040 (by decide)) (fun c1040 => ?_)
                refine q_iconst rfl rfl ?_
                refine q_goto rfl ?_
                refine q_iret rfl rfl rfl ?_
                refine ⟨_, rfl, ?_⟩
                refine q_ifeq rfl rfl (fun c1041 => absurd c1041 (by decide)) (fun c1041 => ?_)
                refine q_iload_n rfl rfl rfl ?_
                refine q_bipush rfl rfl ?_
                refine q_icle rfl rfl (fun c1042 => ?_) (fun c1042 => absurd (i_le_t c607 rfl) c1042)
                refine q_iload_n rfl rfl rfl ?_
                refine q_ifge rfl rfl (fun c1043 => ?_) (fun c1043 => absurd (i_ge_t c608 rfl) c1043)
                refine q_aload_n rfl rfl rfl ?_
                refine q_getf rfl rfl (by decide) (FW_46 S hW) rfl ?_
                refine q_iload_n rfl rfl rfl ?_
                refine q_iload_n rfl rfl rfl ?_
                refine q_iast rfl rfl (by decide) (FW_75 S hW) (by decide) ?_
                refine q_aload_n rfl rfl rfl ?_
                refine q_getf rfl rfl (by decide) (FW_46 S hW) rfl ?_
                refine q_iload_n rfl rfl rfl ?_
                refine q_iload_n rfl rfl rfl ?_
                refine q_iast rfl rfl (by decide) (FW_78 S hW) (by decide) ?_
                refine q_aload_n rfl rfl rfl ?_
                refine q_iload_n rfl rfl rfl ?_
                refine q_nV1v rfl rfl (Or.inl rfl) rfl rfl rfl (by decide) (FW_46 S hW) ⟨rfl, rfl⟩ rfl ?_
                change PQ _ _ _ mm_X12_clear 0 [.ref 46, .int 6, pm_un] [] _ _ 0 0 _
                refine q_iconst rfl rfl ?_
                refine q_ist2n rfl rfl rfl rfl ?_
                refine q_iload_n rfl rfl rfl ?_
                refine q_bipush rfl rfl ?_
                refine q_icge rfl rfl (fun c1044 => absurd c1044 (by decide)) (fun c1044 => ?_)
                refine q_aload_n rfl rfl rfl ?_
                refine q_getf rfl rfl (by decide) (FW_46 S hW) rfl ?_
                refine q_bipush rfl rfl ?_
                refine q_iload_n rfl rfl rfl ?_
                refine q_imul rfl rfl (q_tn (z := 360) rfl ?_)
                refine q_iload_n rfl rfl rfl ?_
                refine q_iadd rfl rfl (q_tn (z := 360) rfl ?_)
                refine q_lconst rfl rfl ?_
                refine q_last rfl rfl (by decide) (FW_79 S hW) (by decide) ?_
                refine q_icc2 (z := 1) rfl rfl rfl rfl rfl ?_
                refine q_goto rfl ?_
                refine q_iload_n rfl rfl rfl ?_
                refine q_bipush rfl rfl ?_
                refine q_icge rfl rfl (fun c1045 => absurd c1045 (by decide)) (fun c1045 => ?_)
                refine q_aload_n rfl rfl rfl ?_
                refine q_getf rfl rfl (by decide) (FW_46 S hW) rfl ?_
                refine q_bipush rfl rfl ?_
                refine q_iload_n rfl rfl rfl ?_
                refine q_imul rfl rfl (q_tn (z := 360) rfl ?_)
                refine q_iload_n rfl rfl rfl ?_
                refine q_iadd rfl rfl (q_tn (z := 361) rfl ?_)
                refine q_lconst rfl rfl ?_
                refine q_last rfl rfl (by decide) rfl (by decide) ?_
                refine q_icc2 (z := 2) rfl rfl rfl rfl rfl ?_
                refine q_goto rfl ?_
                refine q_iload_n rfl rfl rfl ?_
                refine q_bipush rfl rfl ?_
                refine q_icge rfl rfl (fun c1046 => absurd c1046 (by decide)) (fun c1046 => ?_)
                refine q_aload_n rfl rfl rfl ?_
                refine q_getf rfl rfl (by decide) (FW_46 S hW) rfl ?_
                refine q_bipush rfl rfl ?_
                refine q_iload_n rfl rfl rfl ?_
                refine q_imul rfl rfl (q_tn (z := 360) rfl ?_)
                refine q_iload_n rfl rfl rfl ?_
                refine q_iadd rfl rfl (q_tn (z := 362) rfl ?_)
                refine q_lconst rfl rfl ?_
                refine q_last rfl rfl (by decide) rfl (by decide) ?_
                refine q_icc2 (z := 3) rfl rfl rfl rfl rfl ?_
                refine q_goto rfl ?_
                refine q_iload_n rfl rfl rfl ?_
                refine q_bipush rfl rfl ?_
                refine q_icge rfl rfl (fun c1047 => absurd c1047 (by decide)) (fun c1047 => ?_)
                refine q_aload_n rfl rfl rfl ?_
                refine q_getf rfl rfl (by decide) (FW_46 S hW) rfl ?_
                refine q_bipush rfl rfl ?_
                refine q_iload_n rfl rfl rfl ?_
                refine q_imul rfl rfl (q_tn (z := 360) rfl ?_)
                refine q_iload_n rfl rfl rfl ?_
                refine q_iadd rfl rfl (q_tn (z := 363) rfl ?_)
                refine q_lconst rfl rfl ?_
                refine q_last rfl rfl (by decide) rfl (by decide) ?_
                refine q_icc2 (z := 4) rfl rfl rfl rfl rfl ?_
                refine q_goto rfl ?_
                refine q_iload_n rfl rfl rfl ?_
                refine q_bipush rfl rfl ?_
                refine q_icge rfl rfl (fun c1048 => absurd c1048 (by decide)) (fun c1048 => ?_)
                refine q_aload_n rfl rfl rfl ?_
                refine q_getf rfl rfl (by decide) (FW_46 S hW) rfl ?_
                refine q_bipush rfl rfl ?_
                refine q_iload_n rfl rfl rfl ?_
                refine q_imul rfl rfl (q_tn (z := 360) rfl ?_)
                refine q_iload_n rfl rfl rfl ?_
                refine q_iadd rfl rfl (q_tn (z := 364) rfl ?_)
                refine q_lconst rfl rfl ?_
                refine q_last rfl rfl (by decide) rfl (by decide) ?_
                refine q_icc2 (z := 5) rfl rfl rfl rfl rfl ?_
                refine q_goto rfl ?_
                refine q_iload_n rfl rfl rfl ?_
                refine q_bipush rfl rfl ?_
                refine q_icge rfl rfl (fun c1049 => absurd c1049 (by decide)) (fun c1049 => ?_)
                refine q_aload_n rfl rfl rfl ?_
                refine q_getf rfl rfl (by decide) (FW_46 S hW) rfl ?_
                refine q_bipush rfl rfl ?_
                refine q_iload_n rfl rfl rfl ?_
                refine q_imul rfl rfl (q_tn (z := 360) rfl ?_)
                refine q_iload_n rfl rfl rfl ?_
                refine q_iadd rfl rfl (q_tn (z := 365) rfl ?_)
                refine q_lconst rfl rfl ?_
                refine q_last rfl rfl (by decide) rfl (by decide) ?_
                refine q_icc2 (z := 6) rfl rfl rfl rfl rfl ?_
                refine q_goto rfl ?_
                refine q_iload_n rfl rfl rfl ?_
                refine q_bipush rfl rfl ?_
                refine q_icge rfl rfl (fun c1050 => absurd c1050 (by decide)) (fun c1050 => ?_)
                refine q_aload_n rfl rfl rfl ?_
                refine q_getf rfl rfl (by decide) (FW_46 S hW) rfl ?_
                refine q_bipush rfl rfl ?_
                refine q_iload_n rfl rfl rfl ?_
                refine q_imul rfl rfl (q_tn (z := 360) rfl ?_)
                refine q_iload_n rfl rfl rfl ?_
                refine q_iadd rfl rfl (q_tn (z := 366) rfl ?_)
                refine q_lconst rfl rfl ?_
                refine q_last rfl rfl (by decide) rfl (by decide) ?_
                refine q_icc2 (z := 7) rfl rfl rfl rfl rfl ?_
                refine q_goto rfl ?_
                refine q_iload_n rfl rfl rfl ?_
                refine q_bipush rfl rfl ?_
                refine q_icge rfl rfl (fun c1051 => absurd c1051 (by decide)) (fun c1051 => ?_)
                refine q_aload_n rfl rfl rfl ?_
                refine q_getf rfl rfl (by decide) (FW_46 S hW) rfl ?_
                refine q_bipush rfl rfl ?_
                refine q_iload_n rfl rfl rfl ?_
                refine q_imul rfl rfl (q_tn (z := 360) rfl ?_)
                refine q_iload_n rfl rfl rfl ?_
                refine q_iadd rfl rfl (q_tn (z := 367) rfl ?_)
                refine q_lconst rfl rfl ?_
                refine q_last rfl rfl (by decide) rfl (by decide) ?_
                refine q_icc2 (z := 8) rfl rfl rfl rfl rfl ?_
                refine q_goto rfl ?_
                refine q_iload_n rfl rfl rfl ?_
                refine q_bipush rfl rfl ?_
                refine q_icge rfl rfl (fun c1052 => absurd c1052 (by decide)) (fun c1052 => ?_)
                refine q_aload_n rfl rfl rfl ?_
                refine q_getf rfl rfl (by decide) (FW_46 S hW) rfl ?_
                refine q_bipush rfl rfl ?_
                refine q_iload_n rfl rfl rfl ?_
                refine q_imul rfl rfl (q_tn (z := 360) rfl ?_)
                refine q_iload_n rfl rfl rfl ?_
                refine q_iadd rfl rfl (q_tn (z := 368) rfl ?_)
                refine q_lconst rfl rfl ?_
                refine q_last rfl rfl (by decide) rfl (by decide) ?_
                refine q_icc2 (z := 9) rfl rfl rfl rfl rfl ?_
                refine q_goto rfl ?_
                refine q_iload_n rfl rfl rfl ?_
                refine q_bipush rfl rfl ?_
                refine q_icge rfl rfl (fun c1053 => absurd c1053 (by decide)) (fun c1053 => ?_)
                refine q_aload_n rfl rfl rfl ?_
                refine q_getf rfl rfl (by decide) (FW_46 S hW) rfl ?_
                refine q_bipush rfl rfl ?_
                refine q_iload_n rfl rfl rfl ?_
                refine q_imul rfl rfl (q_tn (z := 360) rfl ?_)
                refine q_iload_n rfl rfl rfl ?_
                refine q_iadd rfl rfl (q_tn (z := 369) rfl ?_)
                refine q_lconst rfl rfl ?_
                refine q_last rfl rfl (by decide) rfl (by decide) ?_
                refine q_icc2 (z := 10) rfl rfl rfl rfl rfl ?_
                refine q_goto rfl ?_
                refine q_iload_n rfl rfl rfl ?_
                refine q_bipush rfl rfl ?_
                refine q_icge rfl rfl (fun c1054 => absurd c1054 (by decide)) (fun c1054 => ?_)
                refine q_aload_n rfl rfl rfl ?_
                refine q_getf rfl rfl (by decide) (FW_46 S hW) rfl ?_
                refine q_bipush rfl rfl ?_
                refine q_iload_n rfl rfl rfl ?_
                refine q_imul rfl rfl (q_tn (z := 360) rfl ?_)
                refine q_iload_n rfl rfl rfl ?_
                refine q_iadd rfl rfl (q_tn (z := 370) rfl ?_)
                refine q_lconst rfl rfl ?_
                refine q_last rfl rfl (by decide) rfl (by decide) ?_
                refine q_icc2 (z := 11) rfl rfl rfl rfl rfl ?_
                refine q_goto rfl ?_
                refine q_iload_n rfl rfl rfl ?_
                refine q_bipush rfl rfl ?_
                refine q_icge rfl rfl (fun c1055 => absurd c1055 (by decide)) (fun c1055 => ?_)
                refine q_aload_n rfl rfl rfl ?_
                refine q_getf rfl rfl (by decide) (FW_46 S hW) rfl ?_
                refine q_bipush rfl rfl ?_
                refine q_iload_n rfl rfl rfl ?_
                refine q_imul rfl rfl (q_tn (z := 360) rfl ?_)
                refine q_iload_n rfl rfl rfl ?_
                refine q_iadd rfl rfl (q_tn (z := 371) rfl ?_)
                refine q_lconst rfl rfl ?_
                refine q_last rfl rfl (by decide) rfl (by decide) ?_
                refine q_icc2 (z := 12) rfl rfl rfl rfl rfl ?_
                refine q_goto rfl ?_
                refine q_iload_n rfl rfl rfl ?_
                refine q_bipush rfl rfl ?_
                refine q_icge rfl rfl (fun c1056 => absurd c1056 (by decide)) (fun c1056 => ?_)
                refine q_aload_n rfl rfl rfl ?_
                refine q_getf rfl rfl (by decide) (FW_46 S hW) rfl ?_
                refine q_bipush rfl rfl ?_
                refine q_iload_n rfl rfl rfl ?_
                refine q_imul rfl rfl (q_tn (z := 360) rfl ?_)
                refine q_iload_n rfl rfl rfl ?_
                refine q_iadd rfl rfl (q_tn (z := 372) rfl ?_)
                refine q_lconst rfl rfl ?_
                refine q_last rfl rfl (by decide) rfl (by decide) ?_
                refine q_icc2 (z := 13) rfl rfl rfl rfl rfl ?_
                refine q_goto rfl ?_
                refine q_iload_n rfl rfl rfl ?_
                refine q_bipush rfl rfl ?_
                refine q_icge rfl rfl (fun c1057 => absurd c1057 (by decide)) (fun c1057 => ?_)
                refine q_aload_n rfl rfl rfl ?_
                refine q_getf rfl rfl (by decide) (FW_46 S hW) rfl ?_
                refine q_bipush rfl rfl ?_
                refine q_iload_n rfl rfl rfl ?_
                refine q_imul rfl rfl (q_tn (z := 360) rfl ?_)
                refine q_iload_n rfl rfl rfl ?_
                refine q_iadd rfl rfl (q_tn (z := 373) rfl ?_)
                refine q_lconst rfl rfl ?_
                refine q_last rfl rfl (by decide) rfl (by decide) ?_
                refine q_icc2 (z := 14) rfl rfl rfl rfl rfl ?_
                refine q_goto rfl ?_
                refine q_iload_n rfl rfl rfl ?_
                refine q_bipush rfl rfl ?_
                refine q_icge rfl rfl (fun c1058 => absurd c1058 (by decide)) (fun c1058 => ?_)
                refine q_aload_n rfl rfl rfl ?_
                refine q_getf rfl rfl (by decide) (FW_46 S hW) rfl ?_
                refine q_bipush rfl rfl ?_
                refine q_iload_n rfl rfl rfl ?_
                refine q_imul rfl rfl (q_tn (z := 360) rfl ?_)
                refine q_iload_n rfl rfl rfl ?_
                refine q_iadd rfl rfl (q_tn (z := 374) rfl ?_)
                refine q_lconst rfl rfl ?_
                refine q_last rfl rfl (by decide) rfl (by decide) ?_
                refine q_icc2 (z := 15) rfl rfl rfl rfl rfl ?_
                refine q_goto rfl ?_
                refine q_iload_n rfl rfl rfl ?_
                refine q_bipush rfl rfl ?_
                refine q_icge rfl rfl (fun c1059 => absurd c1059 (by decide)) (fun c1059 => ?_)
                refine q_aload_n rfl rfl rfl ?_
                refine q_getf rfl rfl (by decide) (FW_46 S hW) rfl ?_
                refine q_bipush rfl rfl ?_
                refine q_iload_n rfl rfl rfl ?_
                refine q_imul rfl rfl (q_tn (z := 360) rfl ?_)
                refine q_iload_n rfl rfl rfl ?_
                refine q_iadd rfl rfl (q_tn (z := 375) rfl ?_)
                refine q_lconst rfl rfl ?_
                refine q_last rfl rfl (by decide) rfl (by decide) ?_
                refine q_icc2 (z := 16) rfl rfl rfl rfl rfl ?_
                refine q_goto rfl ?_
                refine q_iload_n rfl rfl rfl ?_
                refine q_bipush rfl rfl ?_
                refine q_icge rfl rfl (fun c1060 => absurd c1060 (by decide)) (fun c1060 => ?_)
                refine q_aload_n rfl rfl rfl ?_
                refine q_getf rfl rfl (by decide) (FW_46 S hW) rfl ?_
                refine q_bipush rfl rfl ?_
                refine q_iload_n rfl rfl rfl ?_
                refine q_imul rfl rfl (q_tn (z := 360) rfl ?_)
                refine q_iload_n rfl rfl rfl ?_
                refine q_iadd rfl rfl (q_tn (z := 376) rfl ?_)
                refine q_lconst rfl rfl ?_
                refine q_last rfl rfl (by decide) rfl (by decide) ?_
                refine q_icc2 (z := 17) rfl rfl rfl rfl rfl ?_
                refine q_goto rfl ?_
                refine q_iload_n rfl rfl rfl ?_
                refine q_bipush rfl rfl ?_
                refine q_icge rfl rfl (fun c1061 => absurd c1061 (by decide)) (fun c1061 => ?_)
                refine q_aload_n rfl rfl rfl ?_
                refine q_getf rfl rfl (by decide) (FW_46 S hW) rfl ?_
                refine q_bipush rfl rfl ?_
                refine q_iload_n rfl rfl rfl ?_
                refine q_imul rfl rfl (q_tn (z := 360) rfl ?_)
                refine q_iload_n rfl rfl rfl ?_
                refine q_iadd rfl rfl (q_tn (z := 377) rfl ?_)
                refine q_lconst rfl rfl ?_
                refine q_last rfl rfl (by decide) rfl (by decide) ?_
                refine q_icc2 (z := 18) rfl rfl rfl rfl rfl ?_
                refine q_goto rfl ?_
                refine q_iload_n rfl rfl rfl ?_
                refine q_bipush rfl rfl ?_
                refine q_icge rfl rfl (fun c1062 => absurd c1062 (by decide)) (fun c1062 => ?_)
                refine q_aload_n rfl rfl rfl ?_
                refine q_getf rfl rfl (by decide) (FW_46 S hW) rfl ?_
                refine q_bipush rfl rfl ?_
                refine q_iload_n rfl rfl rfl ?_
                refine q_imul rfl rfl (q_tn (z := 360) rfl ?_)
                refine q_iload_n rfl rfl rfl ?_
                refine q_iadd rfl rfl (q_tn (z := 378) rfl ?_)
                refine q_lconst rfl rfl ?_
                refine q_last rfl rfl (by decide) rfl (by decide) ?_
                refine q_icc2 (z := 19) rfl rfl rfl rfl rfl ?_
                refine q_goto rfl ?_
                refine q_iload_n rfl rfl rfl ?_
                refine q_bipush rfl rfl ?_
                refine q_icge rfl rfl (fun c1063 => absurd c1063 (by decide)) (fun c1063 => ?_)
                refine q_aload_n rfl rfl rfl ?_
                refine q_getf rfl rfl (by decide) (FW_46 S hW) rfl ?_
                refine q_bipush rfl rfl ?_
                refine q_iload_n rfl rfl rfl ?_
                refine q_imul rfl rfl (q_tn (z := 360) rfl ?_)
                refine q_iload_n rfl rfl rfl ?_
                refine q_iadd rfl rfl (q_tn (z := 379) rfl ?_)
                refine q_lconst rfl rfl ?_
                refine q_last rfl rfl (by decide) rfl (by decide) ?_
                refine q_icc2 (z := 20) rfl rfl rfl rfl rfl ?_
                refine q_goto rfl ?_
                refine q_iload_n rfl rfl rfl ?_
                refine q_bipush rfl rfl ?_
                refine q_icge rfl rfl (fun c1064 => absurd c1064 (by decide)) (fun c1064 => ?_)
                refine q_aload_n rfl rfl rfl ?_
                refine q_getf rfl rfl (by decide) (FW_46 S hW) rfl ?_
                refine q_bipush rfl rfl ?_
                refine q_iload_n rfl rfl rfl ?_
                refine q_imul rfl rfl (q_tn (z := 360) rfl ?_)
                refine q_iload_n rfl rfl rfl ?_
                refine q_iadd rfl rfl (q_tn (z := 380) rfl ?_)
                refine q_lconst rfl rfl ?_
                refine q_last rfl rfl (by decide) rfl (by decide) ?_
                refine q_icc2 (z := 21) rfl rfl rfl rfl rfl ?_
                refine q_goto rfl ?_
                refine q_iload_n rfl rfl rfl ?_
                refine q_bipush rfl rfl ?_
                refine q_icge rfl rfl (fun c1065 => absurd c1065 (by decide)) (fun c1065 => ?_)
                refine q_aload_n rfl rfl rfl ?_
                refine q_getf rfl rfl (by decide) (FW_46 S hW) rfl ?_
                refine q_bipush rfl rfl ?_
                refine q_iload_n rfl rfl rfl ?_
                refine q_imul rfl rfl (q_tn (z := 360) rfl ?_)
                refine q_iload_n rfl rfl rfl ?_
                refine q_iadd rfl rfl (q_tn (z := 381) rfl ?_)
                refine q_lconst rfl rfl ?_
                refine q_last rfl rfl (by decide) rfl (by decide) ?_
                refine q_icc2 (z := 22) rfl rfl rfl rfl rfl ?_
                refine q_goto rfl ?_
                refine q_iload_n rfl rfl rfl ?_
                refine q_bipush rfl rfl ?_
                refine q_icge rfl rfl (fun c1066 => absurd c1066 (by decide)) (fun c1066 => ?_)
                refine q_aload_n rfl rfl rfl ?_
                refine q_getf rfl rfl (by decide) (FW_46 S hW) rfl ?_
                refine q_bipush rfl rfl ?_
                refine q_iload_n rfl rfl rfl ?_
                refine q_imul rfl rfl (q_tn (z := 360) rfl ?_)
                refine q_iload_n rfl rfl rfl ?_
                refine q_iadd rfl rfl (q_tn (z := 382) rfl ?_)
                refine q_lconst rfl rfl ?_
                refine q_last rfl rfl (by decide) rfl (by decide) ?_
                refine q_icc2 (z := 23) rfl rfl rfl rfl rfl ?_
                refine q_goto rfl ?_
                refine q_iload_n rfl rfl rfl ?_
                refine q_bipush rfl rfl ?_
                refine q_icge rfl rfl (fun c1067 => absurd c1067 (by decide)) (fun c1067 => ?_)
                refine q_aload_n rfl rfl rfl ?_
                refine q_getf rfl rfl (by decide) (FW_46 S hW) rfl ?_
                refine q_bipush rfl rfl ?_
                refine q_iload_n rfl rfl rfl ?_
                refine q_imul rfl rfl (q_tn (z := 360) rfl ?_)
                refine q_iload_n rfl rfl rfl ?_
                refine q_iadd rfl rfl (q_tn (z := 383) rfl ?_)
                refine q_lconst rfl rfl ?_
                refine q_last rfl rfl (by decide) rfl (by decide) ?_
                refine q_icc2 (z := 24) rfl rfl rfl rfl rfl ?_
                refine q_goto rfl ?_
                refine q_iload_n rfl rfl rfl ?_
                refine q_bipush rfl rfl ?_
                refine q_icge rfl rfl (fun c1068 => absurd c1068 (by decide)) (fun c1068 => ?_)
                refine q_aload_n rfl rfl rfl ?_
                refine q_getf rfl rfl (by decide) (FW_46 S hW) rfl ?_
                refine q_bipush rfl rfl ?_
                refine q_iload_n rfl rfl rfl ?_
                refine q_imul rfl rfl (q_tn (z := 360) rfl ?_)
                refine q_iload_n rfl rfl rfl ?_
                refine q_iadd rfl rfl (q_tn (z := 384) rfl ?_)
                refine q_lconst rfl rfl ?_
                refine q_last rfl rfl (by decide) rfl (by decide) ?_
                refine q_icc2 (z := 25) rfl rfl rfl rfl rfl ?_
                refine q_goto rfl ?_
                refine q_iload_n rfl rfl rfl ?_
                refine q_bipush rfl rfl ?_
                refine q_icge rfl rfl (fun c1069 => absurd c1069 (by decide)) (fun c1069 => ?_)
                refine q_aload_n rfl rfl rfl ?_
                refine q_getf rfl rfl (by decide) (FW_46 S hW) rfl ?_
                refine q_bipush rfl rfl ?_
                refine q_iload_n rfl rfl rfl ?_
                refine q_imul rfl rfl (q_tn (z := 360) rfl ?_)
                refine q_iload_n rfl rfl rfl ?_
                refine q_iadd rfl rfl (q_tn (z := 385) rfl ?_)
                refine q_lconst rfl rfl ?_
                refine q_last rfl rfl (by decide) rfl (by decide) ?_
                refine q_icc2 (z := 26) rfl rfl rfl rfl rfl ?_
                refine q_goto rfl ?_
                refine q_iload_n rfl rfl rfl ?_
                refine q_bipush rfl rfl ?_
                refine q_icge rfl rfl (fun c1070 => absurd c1070 (by decide)) (fun c1070 => ?_)
                refine q_aload_n rfl rfl rfl ?_
                refine q_getf rfl rfl (by decide) (FW_46 S hW) rfl ?_
                refine q_bipush rfl rfl ?_
                refine q_iload_n rfl rfl rfl ?_
                refine q_imul rfl rfl (q_tn (z := 360) rfl ?_)
                refine q_iload_n rfl rfl rfl ?_
                refine q_iadd rfl rfl (q_tn (z := 386) rfl ?_)
                refine q_lconst rfl rfl ?_
                refine q_last rfl rfl (by decide) rfl (by decide) ?_
                refine q_icc2 (z := 27) rfl rfl rfl rfl rfl ?_
                refine q_goto rfl ?_
                refine q_iload_n rfl rfl rfl ?_
                refine q_bipush rfl rfl ?_
                refine q_icge rfl rfl (fun c1071 => absurd c1071 (by decide)) (fun c1071 => ?_)
                refine q_aload_n rfl rfl rfl ?_
                refine q_getf rfl rfl (by decide) (FW_46 S hW) rfl ?_
                refine q_bipush rfl rfl ?_
                refine q_iload_n rfl rfl rfl ?_
                refine q_imul rfl rfl (q_tn (z := 360) rfl ?_)
                refine q_iload_n rfl rfl rfl ?_
                refine q_iadd rfl rfl (q_tn (z := 387) rfl ?_)
                refine q_lconst rfl rfl ?_
                refine q_last rfl rfl (by decide) rfl (by decide) ?_
                refine q_icc2 (z := 28) rfl rfl rfl rfl rfl ?_
                refine q_goto rfl ?_
                refine q_iload_n rfl rfl rfl ?_
                refine q_bipush rfl rfl ?_
                refine q_icge rfl rfl (fun c1072 => absurd c1072 (by decide)) (fun c1072 => ?_)
                refine q_aload_n rfl rfl rfl ?_
                refine q_getf rfl rfl (by decide) (FW_46 S hW) rfl ?_
                refine q_bipush rfl rfl ?_
                refine q_iload_n rfl rfl rfl ?_
                refine q_imul rfl rfl (q_tn (z := 360) rfl ?_)
                refine q_iload_n rfl rfl rfl ?_
                refine q_iadd rfl rfl (q_tn (z := 388) rfl ?_)
                refine q_lconst rfl rfl ?_
                refine q_last rfl rfl (by decide) rfl (by decide) ?_
                refine q_icc2 (z := 29) rfl rfl rfl rfl rfl ?_
                refine q_goto rfl ?_
                refine q_iload_n rfl rfl rfl ?_
                refine q_bipush rfl rfl ?_
                refine q_icge rfl rfl (fun c1073 => absurd c1073 (by decide)) (fun c1073 => ?_)
                refine q_aload_n rfl rfl rfl ?_
                refine q_getf rfl rfl (by decide) (FW_46 S hW) rfl ?_
                refine q_bipush rfl rfl ?_
                refine q_iload_n rfl rfl rfl ?_
                refine q_imul rfl rfl (q_tn (z := 360) rfl ?_)
                refine q_iload_n rfl rfl rfl ?_
                refine q_iadd rfl rfl (q_tn (z := 389) rfl ?_)
                refine q_lconst rfl rfl ?_
                refine q_last rfl rfl (by decide) rfl (by decide) ?_
                refine q_icc2 (z := 30) rfl rfl rfl rfl rfl ?_
                refine q_goto rfl ?_
                refine q_iload_n rfl rfl rfl ?_
                refine q_bipush rfl rfl ?_
                refine q_icge rfl rfl (fun c1074 => absurd c1074 (by decide)) (fun c1074 => ?_)
                refine q_aload_n rfl rfl rfl ?_
                refine q_getf rfl rfl (by decide) (FW_46 S hW) rfl ?_
                refine q_bipush rfl rfl ?_
                refine q_iload_n rfl rfl rfl ?_
                refine q_imul rfl rfl (q_tn (z := 360) rfl ?_)
                refine q_iload_n rfl rfl rfl ?_
                refine q_iadd rfl rfl (q_tn (z := 390) rfl ?_)
                refine q_lconst rfl rfl ?_
                refine q_last rfl rfl (by decide) rfl (by decide) ?_
                refine q_icc2 (z := 31) rfl rfl rfl rfl rfl ?_
                refine q_goto rfl ?_
                refine q_iload_n rfl rfl rfl ?_
                refine q_bipush rfl rfl ?_
                refine q_icge rfl rfl (fun c1075 => absurd c1075 (by decide)) (fun c1075 => ?_)
                refine q_aload_n rfl rfl rfl ?_
                refine q_getf rfl rfl (by decide) (FW_46 S hW) rfl ?_
                refine q_bipush rfl rfl ?_
                refine q_iload_n rfl rfl rfl ?_
                refine q_imul rfl rfl (q_tn (z := 360) rfl ?_)
                refine q_iload_n rfl rfl rfl ?_
                refine q_iadd rfl rfl (q_tn (z := 391) rfl ?_)
                refine q_lconst rfl rfl ?_
                refine q_last rfl rfl (by decide) rfl (by decide) ?_
                refine q_icc2 (z := 32) rfl rfl rfl rfl rfl ?_
                refine q_goto rfl ?_
                refine q_iload_n rfl rfl rfl ?_
                refine q_bipush rfl rfl ?_
                refine q_icge rfl rfl (fun c1076 => absurd c1076 (by decide)) (fun c1076 => ?_)
                refine q_aload_n rfl rfl rfl ?_
                refine q_getf rfl rfl (by decide) (FW_46 S hW) rfl ?_
                refine q_bipush rfl rfl ?_
                refine q_iload_n rfl rfl rfl ?_
                refine q_imul rfl rfl (q_tn (z := 360) rfl ?_)
                refine q_iload_n rfl rfl rfl ?_
                refine q_iadd rfl rfl (q_tn (z := 392) rfl ?_)
                refine q_lconst rfl rfl ?_
                refine q_last rfl rfl (by decide) rfl (by decide) ?_
                refine q_icc2 (z := 33) rfl rfl rfl rfl rfl ?_
                refine q_goto rfl ?_
                refine q_iload_n rfl rfl rfl ?_
                refine q_bipush rfl rfl ?_
                refine q_icge rfl rfl (fun c1077 => absurd c1077 (by decide)) (fun c1077 => ?_)
                refine q_aload_n rfl rfl rfl ?_
                refine q_getf rfl rfl (by decide) (FW_46 S hW) rfl ?_
                refine q_bipush rfl rfl ?_
                refine q_iload_n rfl rfl rfl ?_
                refine q_imul rfl rfl (q_tn (z := 360) rfl ?_)
                refine q_iload_n rfl rfl rfl ?_
                refine q_iadd rfl rfl (q_tn (z := 393) rfl ?_)
                refine q_lconst rfl rfl ?_
                refine q_last rfl rfl (by decide) rfl (by decide) ?_
                refine q_icc2 (z := 34) rfl rfl rfl rfl rfl ?_
                refine q_goto rfl ?_
                refine q_iload_n rfl rfl rfl ?_
                refine q_bipush rfl rfl ?_
                refine q_icge rfl rfl (fun c1078 => absurd c1078 (by decide)) (fun c1078 => ?_)
                refine q_aload_n rfl rfl rfl ?_
                refine q_getf rfl rfl (by decide) (FW_46 S hW) rfl ?_
                refine q_bipush rfl rfl ?_
                refine q_iload_n rfl rfl rfl ?_
                refine q_imul rfl rfl (q_tn (z := 360) rfl ?_)
                refine q_iload_n rfl rfl rfl ?_
                refine q_iadd rfl rfl (q_tn (z := 394) rfl ?_)
                refine q_lconst rfl rfl ?_
                refine q_last rfl rfl (by decide) rfl (by decide) ?_
                refine q_icc2 (z := 35) rfl rfl rfl rfl rfl ?_
                refine q_goto rfl ?_
                refine q_iload_n rfl rfl rfl ?_
                refine q_bipush rfl rfl ?_
                refine q_icge rfl rfl (fun c1079 => absurd c1079 (by decide)) (fun c1079 => ?_)
                refine q_aload_n rfl rfl rfl ?_
                refine q_getf rfl rfl (by decide) (FW_46 S hW) rfl ?_
                refine q_bipush rfl rfl ?_
                refine q_iload_n rfl rfl rfl ?_
                refine q_imul rfl rfl (q_tn (z := 360) rfl ?_)
                refine q_iload_n rfl rfl rfl ?_
                refine q_iadd rfl rfl (q_tn (z := 395) rfl ?_)
                refine q_lconst rfl rfl ?_
                refine q_last rfl rfl (by decide) rfl (by decide) ?_
                refine q_icc2 (z := 36) rfl rfl rfl rfl rfl ?_
                refine q_goto rfl ?_
                refine q_iload_n rfl rfl rfl ?_
                refine q_bipush rfl rfl ?_
                refine q_icge rfl rfl (fun c1080 => absurd c1080 (by decide)) (fun c1080 => ?_)
                refine q_aload_n rfl rfl rfl ?_
                refine q_getf rfl rfl (by decide) (FW_46 S hW) rfl ?_
                refine q_bipush rfl rfl ?_
                refine q_iload_n rfl rfl rfl ?_
                refine q_imul rfl rfl (q_tn (z := 360) rfl ?_)
                refine q_iload_n rfl rfl rfl ?_
                refine q_iadd rfl rfl (q_tn (z := 396) rfl ?_)
                refine q_lconst rfl rfl ?_
                refine q_last rfl rfl (by decide) rfl (by decide) ?_
                refine q_icc2 (z := 37) rfl rfl rfl rfl rfl ?_
                refine q_goto rfl ?_
                refine q_iload_n rfl rfl rfl ?_
                refine q_bipush rfl rfl ?_
                refine q_icge rfl rfl (fun c1081 => absurd c1081 (by decide)) (fun c1081 => ?_)
                refine q_aload_n rfl rfl rfl ?_
                refine q_getf rfl rfl (by decide) (FW_46 S hW) rfl ?_
                refine q_bipush rfl rfl ?_
                refine q_iload_n rfl rfl rfl ?_
                refine q_imul rfl rfl (q_tn (z := 360) rfl ?_)
                refine q_iload_n rfl rfl rfl ?_
                refine q_iadd rfl rfl (q_tn (z := 397) rfl ?_)
                refine q_lconst rfl rfl ?_
                refine q_last rfl rfl (by decide) rfl (by decide) ?_
                refine q_icc2 (z := 38) rfl rfl rfl rfl rfl ?_
                refine q_goto rfl ?_
                refine q_iload_n rfl rfl rfl ?_
                refine q_bipush rfl rfl ?_
                refine q_icge rfl rfl (fun c1082 => absurd c1082 (by decide)) (fun c1082 => ?_)
                refine q_aload_n rfl rfl rfl ?_
                refine q_getf rfl rfl (by decide) (FW_46 S hW) rfl ?_
                refine q_bipush rfl rfl ?_
                refine q_iload_n rfl rfl rfl ?_
                refine q_imul rfl rfl (q_tn (z := 360) rfl ?_)
                refine q_iload_n rfl rfl rfl ?_
                refine q_iadd rfl rfl (q_tn (z := 398) rfl ?_)
                refine q_lconst rfl rfl ?_
                refine q_last rfl rfl (by decide) rfl (by decide) ?_
                refine q_icc2 (z := 39) rfl rfl rfl rfl rfl ?_
                refine q_goto rfl ?_
                refine q_iload_n rfl rfl rfl ?_
                refine q_bipush rfl rfl ?_
                refine q_icge rfl rfl (fun c1083 => absurd c1083 (by decide)) (fun c1083 => ?_)
                refine q_aload_n rfl rfl rfl ?_
                refine q_getf rfl rfl (by decide) (FW_46 S hW) rfl ?_
                refine q_bipush rfl rfl ?_
                refine q_iload_n rfl rfl rfl ?_
                refine q_imul rfl rfl (q_tn (z := 360) rfl ?_)
                refine q_iload_n rfl rfl rfl ?_
                refine q_iadd rfl rfl (q_tn (z := 399) rfl ?_)
                refine q_lconst rfl rfl ?_
                refine q_last rfl rfl (by decide) rfl (by decide) ?_
                refine q_icc2 (z := 40) rfl rfl rfl rfl rfl ?_
                refine q_goto rfl ?_
                refine q_iload_n rfl rfl rfl ?_
                refine q_bipush rfl rfl ?_
                refine q_icge rfl rfl (fun c1084 => absurd c1084 (by decide)) (fun c1084 => ?_)
                refine q_aload_n rfl rfl rfl ?_
                refine q_getf rfl rfl (by decide) (FW_46 S hW) rfl ?_
                refine q_bipush rfl rfl ?_
                refine q_iload_n rfl rfl rfl ?_
                refine q_imul rfl rfl (q_tn (z := 360) rfl ?_)
                refine q_iload_n rfl rfl rfl ?_
                refine q_iadd rfl rfl (q_tn (z := 400) rfl ?_)
                refine q_lconst rfl rfl ?_
                refine q_last rfl rfl (by decide) rfl (by decide) ?_
                refine q_icc2 (z := 41) rfl rfl rfl rfl rfl ?_
                refine q_goto rfl ?_
                refine q_iload_n rfl rfl rfl ?_
                refine q_bipush rfl rfl ?_
                refine q_icge rfl rfl (fun c1085 => absurd c1085 (by decide)) (fun c1085 => ?_)
                refine q_aload_n rfl rfl rfl ?_
                refine q_getf rfl rfl (by decide) (FW_46 S hW) rfl ?_
                refine q_bipush rfl rfl ?_
                refine q_iload_n rfl rfl rfl ?_
                refine q_imul rfl rfl (q_tn (z := 360) rfl ?_)
                refine q_iload_n rfl rfl rfl ?_
                refine q_iadd rfl rfl (q_tn (z := 401) rfl ?_)
                refine q_lconst rfl rfl ?_
                refine q_last rfl rfl (by decide) rfl (by decide) ?_
                refine q_icc2 (z := 42) rfl rfl rfl rfl rfl ?_
                refine q_goto rfl ?_
                refine q_iload_n rfl rfl rfl ?_
                refine q_bipush rfl rfl ?_
                refine q_icge rfl rfl (fun c1086 => absurd c1086 (by decide)) (fun c1086 => ?_)
                refine q_aload_n rfl rfl rfl ?_
                refine q_getf rfl rfl (by decide) (FW_46 S hW) rfl ?_
                refine q_bipush rfl rfl ?_
                refine q_iload_n rfl rfl rfl ?_
                refine q_imul rfl rfl (q_tn (z := 360) rfl ?_)
                refine q_iload_n rfl rfl rfl ?_
                refine q_iadd rfl rfl (q_tn (z := 402) rfl ?_)
                refine q_lconst rfl rfl ?_
                refine q_last rfl rfl (by decide) rfl (by decide) ?_
                refine q_icc2 (z := 43) rfl rfl rfl rfl rfl ?_
                refine q_goto rfl ?_
                refine q_iload_n rfl rfl rfl ?_
                refine q_bipush rfl rfl ?_
                refine q_icge rfl rfl (fun c1087 => absurd c1087 (by decide)) (fun c1087 => ?_)
                refine q_aload_n rfl rfl rfl ?_
                refine q_getf rfl rfl (by decide) (FW_46 S hW) rfl ?_
                refine q_bipush rfl rfl ?_
                refine q_iload_n rfl rfl rfl ?_
                refine q_imul rfl rfl (q_tn (z := 360) rfl ?_)
                refine q_iload_n rfl rfl rfl ?_
                refine q_iadd rfl rfl (q_tn (z := 403) rfl ?_)
                refine q_lconst rfl rfl ?_
                refine q_last rfl rfl (by decide) rfl (by decide) ?_
                refine q_icc2 (z := 44) rfl rfl rfl rfl rfl ?_
                refine q_goto rfl ?_
                refine q_iload_n rfl rfl rfl ?_
                refine q_bipush rfl rfl ?_
                refine q_icge rfl rfl (fun c1088 => absurd c1088 (by decide)) (fun c1088 => ?_)
                refine q_aload_n rfl rfl rfl ?_
                refine q_getf rfl rfl (by decide) (FW_46 S hW) rfl ?_
                refine q_bipush rfl rfl ?_
                refine q_iload_n rfl rfl rfl ?_
                refine q_imul rfl rfl (q_tn (z := 360) rfl ?_)
                refine q_iload_n rfl rfl rfl ?_
                refine q_iadd rfl rfl (q_tn (z := 404) rfl ?_)
                refine q_lconst rfl rfl ?_
                refine q_last rfl rfl (by decide) rfl (by decide) ?_
                refine q_icc2 (z := 45) rfl rfl rfl rfl rfl ?_
                refine q_goto rfl ?_
                refine q_iload_n rfl rfl rfl ?_
                refine q_bipush rfl rfl ?_
                refine q_icge rfl rfl (fun c1089 => absurd c1089 (by decide)) (fun c1089 => ?_)
                refine q_aload_n rfl rfl rfl ?_
                refine q_getf rfl rfl (by decide) (FW_46 S hW) rfl ?_
                refine q_bipush rfl rfl ?_
                refine q_iload_n rfl rfl rfl ?_
                refine q_imul rfl rfl (q_tn (z := 360) rfl ?_)
                refine q_iload_n rfl rfl rfl ?_
                refine q_iadd rfl rfl (q_tn (z := 405) rfl ?_)
                refine q_lconst rfl rfl ?_
                refine q_last rfl rfl (by decide) rfl (by decide) ?_
                refine q_icc2 (z := 46) rfl rfl rfl rfl rfl ?_
                refine q_goto rfl ?_
                refine q_iload_n rfl rfl rfl ?_
                refine q_bipush rfl rfl ?_
                refine q_icge rfl rfl (fun c1090 => absurd c1090 (by decide)) (fun c1090 => ?_)
                refine q_aload_n rfl rfl rfl ?_
                refine q_getf rfl rfl (by decide) (FW_46 S hW) rfl ?_
                refine q_bipush rfl rfl ?_
                refine q_iload_n rfl rfl rfl ?_
                refine q_imul rfl rfl (q_tn (z := 360) rfl ?_)
                refine q_iload_n rfl rfl rfl ?_
                refine q_iadd rfl rfl (q_tn (z := 406) rfl ?_)
                refine q_lconst rfl rfl ?_
                refine q_last rfl rfl (by decide) rfl (by decide) ?_
                refine q_icc2 (z := 47) rfl rfl rfl rfl rfl ?_
                refine q_goto rfl ?_
                refine q_iload_n rfl rfl rfl ?_
                refine q_bipush rfl rfl ?_
                refine q_icge rfl rfl (fun c1091 => absurd c1091 (by decide)) (fun c1091 => ?_)
                refine q_aload_n rfl rfl rfl ?_
                refine q_getf rfl rfl (by decide) (FW_46 S hW) rfl ?_
                refine q_bipush rfl rfl ?_
                refine q_iload_n rfl rfl rfl ?_
                refine q_imul rfl rfl (q_tn (z := 360) rfl ?_)
                refine q_iload_n rfl rfl rfl ?_
                refine q_iadd rfl rfl (q_tn (z := 407) rfl ?_)
                refine q_lconst rfl rfl ?_
                refine q_last rfl rfl (by decide) rfl (by decide) ?_
                refine q_icc2 (z := 48) rfl rfl rfl rfl rfl ?_
                refine q_goto rfl ?_
                refine q_iload_n rfl rfl rfl ?_
                refine q_bipush rfl rfl ?_
                refine q_icge rfl rfl (fun c1092 => absurd c1092 (by decide)) (fun c1092 => ?_)
                refine q_aload_n rfl rfl rfl ?_
                refine q_getf rfl rfl (by decide) (FW_46 S hW) rfl ?_
                refine q_bipush rfl rfl ?_
                refine q_iload_n rfl rfl rfl ?_
                refine q_imul rfl rfl (q_tn (z := 360) rfl ?_)
                refine q_iload_n rfl rfl rfl ?_
                refine q_iadd rfl rfl (q_tn (z := 408) rfl ?_)
                refine q_lconst rfl rfl ?_
                refine q_last rfl rfl (by decide) rfl (by decide) ?_
                refine q_icc2 (z := 49) rfl rfl rfl rfl rfl ?_
                refine q_goto rfl ?_
                refine q_iload_n rfl rfl rfl ?_
                refine q_bipush rfl rfl ?_
                refine q_icge rfl rfl (fun c1093 => absurd c1093 (by decide)) (fun c1093 => ?_)
                refine q_aload_n rfl rfl rfl ?_
                refine q_getf rfl rfl (by decide) (FW_46 S hW) rfl ?_
                refine q_bipush rfl rfl ?_
                refine q_iload_n rfl rfl rfl ?_
                refine q_imul rfl rfl (q_tn (z := 360) rfl ?_)
                refine q_iload_n rfl rfl rfl ?_
                refine q_iadd rfl rfl (q_tn (z := 409) rfl ?_)
                refine q_lconst rfl rfl ?_
                refine q_last rfl rfl (by decide) rfl (by decide) ?_
                refine q_icc2 (z := 50) rfl rfl rfl rfl rfl ?_
                refine q_goto rfl ?_
                refine q_iload_n rfl rfl rfl ?_
                refine q_bipush rfl rfl ?_
                refine q_icge rfl rfl (fun c1094 => absurd c1094 (by decide)) (fun c1094 => ?_)
                refine q_aload_n rfl rfl rfl ?_
                refine q_getf rfl rfl (by decide) (FW_46 S hW) rfl ?_
                refine q_bipush rfl rfl ?_
                refine q_iload_n rfl rfl rfl ?_
                refine q_imul rfl rfl (q_tn (z := 360) rfl ?_)
                refine q_iload_n rfl rfl rfl ?_
                refine q_iadd rfl rfl (q_tn (z := 410) rfl ?_)
                refine q_lconst rfl rfl ?_
                refine q_last rfl rfl (by decide) rfl (by decide) ?_
                refine q_icc2 (z := 51) rfl rfl rfl rfl rfl ?_
                refine q_goto rfl ?_
                refine q_iload_n rfl rfl rfl ?_
                refine q_bipush rfl rfl ?_
                refine q_icge rfl rfl (fun c1095 => absurd c1095 (by decide)) (fun c1095 => ?_)
                refine q_aload_n rfl rfl rfl ?_
                refine q_getf rfl rfl (by decide) (FW_46 S hW) rfl ?_
                refine q_bipush rfl rfl ?_
                refine q_iload_n rfl rfl rfl ?_
                refine q_imul rfl rfl (q_tn (z := 360) rfl ?_)
                refine q_iload_n rfl rfl rfl ?_
                refine q_iadd rfl rfl (q_tn (z := 411) rfl ?_)
                refine q_lconst rfl rfl ?_
                refine q_last rfl rfl (by decide) rfl (by decide) ?_
                refine q_icc2 (z := 52) rfl rfl rfl rfl rfl ?_
                refine q_goto rfl ?_
                refine q_iload_n rfl rfl rfl ?_
                refine q_bipush rfl rfl ?_
                refine q_icge rfl rfl (fun c1096 => absurd c1096 (by decide)) (fun c1096 => ?_)
                refine q_aload_n rfl rfl rfl ?_
                refine q_getf rfl rfl (by decide) (FW_46 S hW) rfl ?_
                refine q_bipush rfl rfl ?_
                refine q_iload_n rfl rfl rfl ?_
                refine q_imul rfl rfl (q_tn (z := 360) rfl ?_)
                refine q_iload_n rfl rfl rfl ?_
                refine q_iadd rfl rfl (q_tn (z := 412) rfl ?_)
                refine q_lconst rfl rfl ?_
                refine q_last rfl rfl (by decide) rfl (by decide) ?_
                refine q_icc2 (z := 53) rfl rfl rfl rfl rfl ?_
                refine q_goto rfl ?_
                refine q_iload_n rfl rfl rfl ?_
                refine q_bipush rfl rfl ?_
                refine q_icge rfl rfl (fun c1097 => absurd c1097 (by decide)) (fun c1097 => ?_)
                refine q_aload_n rfl rfl rfl ?_
                refine q_getf rfl rfl (by decide) (FW_46 S hW) rfl ?_
                refine q_bipush rfl rfl ?_
                refine q_iload_n rfl rfl rfl ?_
                refine q_imul rfl rfl (q_tn (z := 360) rfl ?_)
                refine q_iload_n rfl rfl rfl ?_
                refine q_iadd rfl rfl (q_tn (z := 413) rfl ?_)
                refine q_lconst rfl rfl ?_
                refine q_last rfl rfl (by decide) rfl (by decide) ?_
                refine q_icc2 (z := 54) rfl rfl rfl rfl rfl ?_
                refine q_goto rfl ?_
                refine q_iload_n rfl rfl rfl ?_
                refine q_bipush rfl rfl ?_
                refine q_icge rfl rfl (fun c1098 => absurd c1098 (by decide)) (fun c1098 => ?_)
                refine q_aload_n rfl rfl rfl ?_
                refine q_getf rfl rfl (by decide) (FW_46 S hW) rfl ?_
                refine q_bipush rfl rfl ?_
                refine q_iload_n rfl rfl rfl ?_
                refine q_imul rfl rfl (q_tn (z := 360) rfl ?_)
                refine q_iload_n rfl rfl rfl ?_
                refine q_iadd rfl rfl (q_tn (z := 414) rfl ?_)
                refine q_lconst rfl rfl ?_
                refine q_last rfl rfl (by decide) rfl (by decide) ?_
                refine q_icc2 (z := 55) rfl rfl rfl rfl rfl ?_
                refine q_goto rfl ?_
                refine q_iload_n rfl rfl rfl ?_
                refine q_bipush rfl rfl ?_
                refine q_icge rfl rfl (fun c1099 => absurd c1099 (by decide)) (fun c1099 => ?_)
                refine q_aload_n rfl rfl rfl ?_
                refine q_getf rfl rfl (by decide) (FW_46 S hW) rfl ?_
                refine q_bipush rfl rfl ?_
                refine q_iload_n rfl rfl rfl ?_
                refine q_imul rfl rfl (q_tn (z := 360) rfl ?_)
                refine q_iload_n rfl rfl rfl ?_
                refine q_iadd rfl rfl (q_tn (z := 415) rfl ?_)
                refine q_lconst rfl rfl ?_
                refine q_last rfl rfl (by decide) rfl (by decide) ?_
                refine q_icc2 (z := 56) rfl rfl rfl rfl rfl ?_
                refine q_goto rfl ?_
                refine q_iload_n rfl rfl rfl ?_
                refine q_bipush rfl rfl ?_
                refine q_icge rfl rfl (fun c1100 => absurd c1100 (by decide)) (fun c1100 => ?_)
                refine q_aload_n rfl rfl rfl ?_
                refine q_getf rfl rfl (by decide) (FW_46 S hW) rfl ?_
                refine q_bipush rfl rfl ?_
                refine q_iload_n rfl rfl rfl ?_
                refine q_imul rfl rfl (q_tn (z := 360) rfl ?_)
                refine q_iload_n rfl rfl rfl ?_
                refine q_iadd rfl rfl (q_tn (z := 416) rfl ?_)
                refine q_lconst rfl rfl ?_
                refine q_last rfl rfl (by decide) rfl (by decide) ?_
                refine q_icc2 (z := 57) rfl rfl rfl rfl rfl ?_
                refine q_goto rfl ?_
                refine q_iload_n rfl rfl rfl ?_
                refine q_bipush rfl rfl ?_
                refine q_icge rfl rfl (fun c1101 => absurd c1101 (by decide)) (fun c1101 => ?_)
                refine q_aload_n rfl rfl rfl ?_
                refine q_getf rfl rfl (by decide) (FW_46 S hW) rfl ?_
                refine q_bipush rfl rfl ?_
                refine q_iload_n rfl rfl rfl ?_
                refine q_imul rfl rfl (q_tn (z := 360) rfl ?_)
                refine q_iload_n rfl rfl rfl ?_
                refine q_iadd rfl rfl (q_tn (z := 417) rfl ?_)
                refine q_lconst rfl rfl ?_
                refine q_last rfl rfl (by decide) rfl (by decide) ?_
                refine q_icc2 (z := 58) rfl rfl rfl rfl rfl ?_
                refine q_goto rfl ?_
                refine q_iload_n rfl rfl rfl ?_
                refine q_bipush rfl rfl ?_
                refine q_icge rfl rfl (fun c1102 => absurd c1102 (by decide)) (fun c1102 => ?_)
                refine q_aload_n rfl rfl rfl ?_
                refine q_getf rfl rfl (by decide) (FW_46 S hW) rfl ?_
                refine q_bipush rfl rfl ?_
                refine q_iload_n rfl rfl rfl ?_
                refine q_imul rfl rfl (q_tn (z := 360) rfl ?_)
                refine q_iload_n rfl rfl rfl ?_
                refine q_iadd rfl rfl (q_tn (z := 418) rfl ?_)
                refine q_lconst rfl rfl ?_
                refine q_last rfl rfl (by decide) rfl (by decide) ?_
                refine q_icc2 (z := 59) rfl rfl rfl rfl rfl ?_
                refine q_goto rfl ?_
                refine q_iload_n rfl rfl rfl ?_
                refine q_bipush rfl rfl ?_
                refine q_icge rfl rfl (fun c1103 => absurd c1103 (by decide)) (fun c1103 => ?_)
                refine q_aload_n rfl rfl rfl ?_
                refine q_getf rfl rfl (by decide) (FW_46 S hW) rfl ?_
                refine q_bipush rfl rfl ?_
                refine q_iload_n rfl rfl rfl ?_
                refine q_imul rfl rfl (q_tn (z := 360) rfl ?_)
                refine q_iload_n rfl rfl rfl ?_
                refine q_iadd rfl rfl (q_tn (z := 419) rfl ?_)
                refine q_lconst rfl rfl ?_
                refine q_last rfl rfl (by decide) rfl (by decide) ?_
                refine q_icc2 (z := 60) rfl rfl rfl rfl rfl ?_
                refine q_goto rfl ?_
                refine q_iload_n rfl rfl rfl ?_
                refine q_bipush rfl rfl ?_
                refine q_icge rfl rfl (fun c1104 => ?_) (fun c1104 => absurd (by decide) c1104)
                refine q_ret rfl rfl ?_
                refine ⟨rfl, ?_⟩
                refine q_iconst rfl rfl ?_
                refine q_iret rfl rfl trivial ?_
                refine ⟨_, rfl, ?_⟩
                refine q_iceq rfl rfl (fun c1105 => ?_) (fun c1105 => absurd (by decide) c1105)
                refine q_icc4 (z := 6) rfl rfl rfl rfl rfl ?_
                refine q_goto rfl ?_
                refine q_iload rfl rfl rfl ?_
                refine q_aload_nF rfl rfl rfl ?_
                refine q_alenX (x := 6) rfl rfl rfl ?_
                refine q_bipush rfl rfl ?_
                refine q_isub rfl rfl (q_tn (z := 0) rfl ?_)
                refine q_icgt rfl rfl (fun c1106 => ?_) (fun c1106 => absurd (by decide) c1106)
                refine q_iconst rfl rfl ?_
                refine q_iret rfl rfl rfl ?_
                exact hK _ _
              · refine q_aast rfl rfl (by decide) (by decide) (FW_43 S hW) rfl rfl (by decide) ?_
                refine q_iconst rfl rfl ?_
                refine q_iret rfl rfl trivial ?_
                refine ⟨_, rfl, ?_⟩
                refine q_aload_n rfl rfl rfl ?_
                refine q_aload_nF rfl rfl rfl ?_
                refine q_iload rfl rfl rfl ?_
                refine q_iconst rfl rfl ?_
                refine q_iadd rfl rfl (q_tn (z := 1) rfl ?_)
                refine q_ialdX (x := 7) rfl rfl rfl hx1 ?_
                refine q_aload_nF rfl rfl rfl ?_
                refine q_iload rfl rfl rfl ?_
                refine q_iconst rfl rfl ?_
                refine q_iadd rfl rfl (q_tn (z := 2) rfl ?_)
                refine q_ialdX (x := 4) rfl rfl rfl hx2 ?_
                refine q_aload_nF rfl rfl rfl ?_
                refine q_iload rfl rfl rfl ?_
                refine q_iconst rfl rfl ?_
                refine q_iadd rfl rfl (q_tn (z := 3) rfl ?_)
                refine q_ialdX (x := x3) rfl rfl rfl hx3 ?_
                refine q_nV3 rfl rfl (Or.inl rfl) rfl rfl rfl (by decide) (FW_46 S hW) ⟨rfl, rfl⟩ rfl ?_
                change PQ _ _ _ mm_X12_make 0 [.ref 46, .int 7, .int 4, .int x3] [] _ _ 0 0 _
                refine q_aload_n rfl rfl rfl ?_
                refine q_iload_n rfl rfl rfl ?_
                refine q_nV1 rfl rfl (Or.inl rfl) rfl rfl rfl (by decide) (FW_46 S hW) ⟨rfl, rfl⟩ rfl ?_
                change PQ _ _ _ mm_X12_isShelf 0 [.ref 46, .int 7] [] _ _ 0 0 _
                refine q_aload_n rfl rfl rfl ?_
                refine q_iload_n rfl rfl rfl ?_
                refine q_iconst rfl rfl ?_
                refine q_bipush rfl rfl ?_
                refine q_nV3 rfl rfl (Or.inl rfl) rfl rfl rfl (by decide) (FW_46 S hW) ⟨rfl, rfl⟩ rfl ?_
                change PQ _ _ _ mm_X12_in 0 [.ref 46, .int 7, .int 0, .int 7] [] _ _ 0 0 _
                refine q_iload_n rfl rfl rfl ?_
                refine q_iload_n rfl rfl rfl ?_
                refine q_iclt rfl rfl (fun c1107 => absurd c1107 (by decide)) (fun c1107 => ?_)
                refine q_iload_n rfl rfl rfl ?_
                refine q_iload_n rfl rfl rfl ?_
                refine q_icgt rfl rfl (fun c1108 => absurd c1108 (by decide)) (fun c1108 => ?_)
                refine q_iconst rfl rfl ?_
                refine q_goto rfl ?_
                refine q_iret rfl rfl rfl ?_
                refine ⟨_, rfl, ?_⟩
                refine q_iret rfl rfl rfl ?_
                refine ⟨_, rfl, ?_⟩
                refine q_ifeq rfl rfl (fun c1109 => absurd c1109 (by decide)) (fun c1109 => ?_)
                refine q_aload_n rfl rfl rfl ?_
                refine q_iload_n rfl rfl rfl ?_
                refine q_iconst rfl rfl ?_
                refine q_iconst rfl rfl ?_
                refine q_nV3 rfl rfl (Or.inl rfl) rfl rfl rfl (by decide) (FW_46 S hW) ⟨rfl, rfl⟩ rfl ?_
                change PQ _ _ _ mm_X12_in 0 [.ref 46, .int 4, .int 3, .int 4] [] _ _ 0 0 _
                refine q_iload_n rfl rfl rfl ?_
                refine q_iload_n rfl rfl rfl ?_
                refine q_iclt rfl rfl (fun c1110 => absurd c1110 (by decide)) (fun c1110 => ?_)
                refine q_iload_n rfl rfl rfl ?_
                refine q_iload_n rfl rfl rfl ?_
                refine q_icgt rfl rfl (fun c1111 => absurd c1111 (by decide)) (fun c1111 => ?_)
                refine q_iconst rfl rfl ?_
                refine q_goto rfl ?_
                refine q_iret rfl rfl rfl ?_
                refine ⟨_, rfl, ?_⟩
                refine q_ifeq rfl rfl (fun c1112 => absurd c1112 (by decide)) (fun c1112 => ?_)
                refine q_iload_n rfl rfl rfl ?_
                refine q_bipush rfl rfl ?_
                refine q_icle rfl rfl (fun c1113 => ?_) (fun c1113 => absurd (i_le_t c607 rfl) c1113)
                refine q_iload_n rfl rfl rfl ?_
                refine q_ifge rfl rfl (fun c1114 => ?_) (fun c1114 => absurd (i_ge_t c608 rfl) c1114)
                refine q_aload_n rfl rfl rfl ?_
                refine q_getf rfl rfl (by decide) (FW_46 S hW) rfl ?_
                refine q_iload_n rfl rfl rfl ?_
                refine q_iload_n rfl rfl rfl ?_
                refine q_iast rfl rfl (by decide) (FW_75 S hW) (by decide) ?_
                refine q_aload_n rfl rfl rfl ?_
                refine q_getf rfl rfl (by decide) (FW_46 S hW) rfl ?_
                refine q_iload_n rfl rfl rfl ?_
                refine q_iload_n rfl rfl rfl ?_
                refine q_iast rfl rfl (by decide) (FW_78 S hW) (by decide) ?_
                refine q_aload_n rfl rfl rfl ?_
                refine q_iload_n rfl rfl rfl ?_
                refine q_nV1v rfl rfl (Or.inl rfl) rfl rfl rfl (by decide) (FW_46 S hW) ⟨rfl, rfl⟩ rfl ?_
                change PQ _ _ _ mm_X12_clear 0 [.ref 46, .int 7, pm_un] [] _ _ 0 0 _
                refine q_iconst rfl rfl ?_
                refine q_ist2n rfl rfl rfl rfl ?_
                refine q_iload_n rfl rfl rfl ?_
                refine q_bipush rfl rfl ?_
                refine q_icge rfl rfl (fun c1115 => absurd c1115 (by decide)) (fun c1115 => ?_)
                refine q_aload_n rfl rfl rfl ?_
                refine q_getf rfl rfl (by decide) (FW_46 S hW) rfl ?_
                refine q_bipush rfl rfl ?_
                refine q_iload_n rfl rfl rfl ?_
                refine q_imul rfl rfl (q_tn (z := 420) rfl ?_)
                refine q_iload_n rfl rfl rfl ?_
                refine q_iadd rfl rfl (q_tn (z := 420) rfl ?_)
                refine q_lconst rfl rfl ?_
                refine q_last rfl rfl (by decide) (FW_79 S hW) (by decide) ?_
                refine q_icc2 (z := 1) rfl rfl rfl rfl rfl ?_
                refine q_goto rfl ?_
                refine q_iload_n rfl rfl rfl ?_
                refine q_bipush rfl rfl ?_
                refine q_icge rfl rfl (fun c1116 => absurd c1116 (by decide)) (fun c1116 => ?_)
                refine q_aload_n rfl rfl rfl ?_
                refine q_getf rfl rfl (by decide) (FW_46 S hW) rfl ?_
                refine q_bipush rfl rfl ?_
                refine q_iload_n rfl rfl rfl ?_
                refine q_imul rfl rfl (q_tn (z := 420) rfl ?_)
                refine q_iload_n rfl rfl rfl ?_
                refine q_iadd rfl rfl (q_tn (z := 421) rfl ?_)
                refine q_lconst rfl rfl ?_
                refine q_last rfl rfl (by decide) rfl (by decide) ?_
                refine q_icc2 (z := 2) rfl rfl rfl rfl rfl ?_
                refine q_goto rfl ?_
                refine q_iload_n rfl rfl rfl ?_
                refine q_bipush rfl rfl ?_
                refine q_icge rfl rfl (fun c1117 => absurd c1117 (by decide)) (fun c1117 => ?_)
                refine q_aload_n rfl rfl rfl ?_
                refine q_getf rfl rfl (by decide) (FW_46 S hW) rfl ?_
                refine q_bipush rfl rfl ?_
                refine q_iload_n rfl rfl rfl ?_
                refine q_imul rfl rfl (q_tn (z := 420) rfl ?_)
                refine q_iload_n rfl rfl rfl ?_
                refine q_iadd rfl rfl (q_tn (z := 422) rfl ?_)
                refine q_lconst rfl rfl ?_
                refine q_last rfl rfl (by decide) rfl (by decide) ?_
                refine q_icc2 (z := 3) rfl rfl rfl rfl rfl ?_
                refine q_goto rfl ?_
                refine q_iload_n rfl rfl rfl ?_
                refine q_bipush rfl rfl ?_
                refine q_icge rfl rfl (fun c1118 => absurd c1118 (by decide)) (fun c1118 => ?_)
                refine q_aload_n rfl rfl rfl ?_
                refine q_getf rfl rfl (by decide) (FW_46 S hW) rfl ?_
                refine q_bipush rfl rfl ?_
                refine q_iload_n rfl rfl rfl ?_
                refine q_imul rfl rfl (q_tn (z := 420) rfl ?_)
                refine q_iload_n rfl rfl rfl ?_
                refine q_iadd rfl rfl (q_tn (z := 423) rfl ?_)
                refine q_lconst rfl rfl ?_
                refine q_last rfl rfl (by decide) rfl (by decide) ?_
                refine q_icc2 (z := 4) rfl rfl rfl rfl rfl ?_
                refine q_goto rfl ?_
                refine q_iload_n rfl rfl rfl ?_
                refine q_bipush rfl rfl ?_
                refine q_icge rfl rfl (fun c1119 => absurd c1119 (by decide)) (fun c1119 => ?_)
                refine q_aload_n rfl rfl rfl ?_
                refine q_getf rfl rfl (by decide) (FW_46 S hW) rfl ?_
                refine q_bipush rfl rfl ?_
                refine q_iload_n rfl rfl rfl ?_
                refine q_imul rfl rfl (q_tn (z := 420) rfl ?_)
                refine q_iload_n rfl rfl rfl ?_
                refine q_iadd rfl rfl (q_tn (z := 424) rfl ?_)
                refine q_lconst rfl rfl ?_
                refine q_last rfl rfl (by decide) rfl (by decide) ?_
                refine q_icc2 (z := 5) rfl rfl rfl rfl rfl ?_
                refine q_goto rfl ?_
                refine q_iload_n rfl rfl rfl ?_
                refine q_bipush rfl rfl ?_
                refine q_icge rfl rfl (fun c1120 => absurd c1120 (by decide)) (fun c1120 => ?_)
                refine q_aload_n rfl rfl rfl ?_
                refine q_getf rfl rfl (by decide) (FW_46 S hW) rfl ?_
                refine q_bipush rfl rfl ?_
                refine q_iload_n rfl rfl rfl ?_
                refine q_imul rfl rfl (q_tn (z := 420) rfl ?_)
                refine q_iload_n rfl rfl rfl ?_
                refine q_iadd rfl rfl (q_tn (z := 425) rfl ?_)
                refine q_lconst rfl rfl ?_
                refine q_last rfl rfl (by decide) rfl (by decide) ?_
                refine q_icc2 (z := 6) rfl rfl rfl rfl rfl ?_
                refine q_goto rfl ?_
                refine q_iload_n rfl rfl rfl ?_
                refine q_bipush rfl rfl ?_
                refine q_icge rfl rfl (fun c1121 => absurd c1121 (by decide)) (fun c1121 => ?_)
                refine q_aload_n rfl rfl rfl ?_
                refine q_getf rfl rfl (by decide) (FW_46 S hW) rfl ?_
                refine q_bipush rfl rfl ?_
                refine q_iload_n rfl rfl rfl ?_
                refine q_imul rfl rfl (q_tn (z := 420) rfl ?_)
                refine q_iload_n rfl rfl rfl ?_
                refine q_iadd rfl rfl (q_tn (z := 426) rfl ?_)
                refine q_lconst rfl rfl ?_
                refine q_last rfl rfl (by decide) rfl (by decide) ?_
                refine q_icc2 (z := 7) rfl rfl rfl rfl rfl ?_
                refine q_goto rfl ?_
                refine q_iload_n rfl rfl rfl ?_
                refine q_bipush rfl rfl ?_
                refine q_icge rfl rfl (fun c1122 => absurd c1122 (by decide)) (fun c1122 => ?_)
                refine q_aload_n rfl rfl rfl ?_
                refine q_getf rfl rfl (by decide) (FW_46 S hW) rfl ?_
                refine q_bipush rfl rfl ?_
                refine q_iload_n rfl rfl rfl ?_
                refine q_imul rfl rfl (q_tn (z := 420) rfl ?_)
                refine q_iload_n rfl rfl rfl ?_
                refine q_iadd rfl rfl (q_tn (z := 427) rfl ?_)
                refine q_lconst rfl rfl ?_
                refine q_last rfl rfl (by decide) rfl (by decide) ?_
                refine q_icc2 (z := 8) rfl rfl rfl rfl rfl ?_
                refine q_goto rfl ?_
                refine q_iload_n rfl rfl rfl ?_
                refine q_bipush rfl rfl ?_
                refine q_icge rfl rfl (fun c1123 => absurd c1123 (by decide)) (fun c1123 => ?_)
                refine q_aload_n rfl rfl rfl ?_
                refine q_getf rfl rfl (by decide) (FW_46 S hW) rfl ?_
                refine q_bipush rfl rfl ?_
                refine q_iload_n rfl rfl rfl ?_
                refine q_imul rfl rfl (q_tn (z := 420) rfl ?_)
                refine q_iload_n rfl rfl rfl ?_
                refine q_iadd rfl rfl (q_tn (z := 428) rfl ?_)
                refine q_lconst rfl rfl ?_
                refine q_last rfl rfl (by decide) rfl (by decide) ?_
                refine q_icc2 (z := 9) rfl rfl rfl rfl rfl ?_
                refine q_goto rfl ?_
                refine q_iload_n rfl rfl rfl ?_
                refine q_bipush rfl rfl ?_
                refine q_icge rfl rfl (fun c1124 => absurd c1124 (by decide)) (fun c1124 => ?_)
                refine q_aload_n rfl rfl rfl ?_
                refine q_getf rfl rfl (by decide) (FW_46 S hW) rfl ?_
                refine q_bipush rfl rfl ?_
                refine q_iload_n rfl rfl rfl ?_
                refine q_imul rfl rfl (q_tn (z := 420) rfl ?_)
                refine q_iload_n rfl rfl rfl ?_
                refine q_iadd rfl rfl (q_tn (z := 429) rfl ?_)
                refine q_lconst rfl rfl ?_
                refine q_last rfl rfl (by decide) rfl (by decide) ?_
                refine q_icc2 (z := 10) rfl rfl rfl rfl rfl ?_
                refine q_goto rfl ?_
                refine q_iload_n rfl rfl rfl ?_
                refine q_bipush rfl rfl ?_
                refine q_icge rfl rfl (fun c1125 => absurd c1125 (by decide)) (fun c1125 => ?_)
                refine q_aload_n rfl rfl rfl ?_
                refine q_getf rfl rfl (by decide) (FW_46 S hW) rfl ?_
                refine q_bipush rfl rfl ?_
                refine q_iload_n rfl rfl rfl ?_
                refine q_imul rfl rfl (q_tn (z := 420) rfl ?_)
                refine q_iload_n rfl rfl rfl ?_
                refine q_iadd rfl rfl (q_tn (z := 430) rfl ?_)
                refine q_lconst rfl rfl ?_
                refine q_last rfl rfl (by decide) rfl (by decide) ?_
                refine q_icc2 (z := 11) rfl rfl rfl rfl rfl ?_
                refine q_goto rfl ?_
                refine q_iload_n rfl rfl rfl ?_
                refine q_bipush rfl rfl ?_
                refine q_icge rfl rfl (fun c1126 => absurd c1126 (by decide)) (fun c1126 => ?_)
                refine q_aload_n rfl rfl rfl ?_
                refine q_getf rfl rfl (by decide) (FW_46 S hW) rfl ?_
                refine q_bipush rfl rfl ?_
                refine q_iload_n rfl rfl rfl ?_
                refine q_imul rfl rfl (q_tn (z := 420) rfl ?_)
                refine q_iload_n rfl rfl rfl ?_
                refine q_iadd rfl rfl (q_tn (z := 431) rfl ?_)
                refine q_lconst rfl rfl ?_
                refine q_last rfl rfl (by decide) rfl (by decide) ?_
                refine q_icc2 (z := 12) rfl rfl rfl rfl rfl ?_
                refine q_goto rfl ?_
                refine q_iload_n rfl rfl rfl ?_
                refine q_bipush rfl rfl ?_
                refine q_icge rfl rfl (fun c1127 => absurd c1127 (by decide)) (fun c1127 => ?_)
                refine q_aload_n rfl rfl rfl ?_
                refine q_getf rfl rfl (by decide) (FW_46 S hW) rfl ?_
                refine q_bipush rfl rfl ?_
                refine q_iload_n rfl rfl rfl ?_
                refine q_imul rfl rfl (q_tn (z := 420) rfl ?_)
                refine q_iload_n rfl rfl rfl ?_
                refine q_iadd rfl rfl (q_tn (z := 432) rfl ?_)
                refine q_lconst rfl rfl ?_
                refine q_last rfl rfl (by decide) rfl (by decide) ?_
                refine q_icc2 (z := 13) rfl rfl rfl rfl rfl ?_
                refine q_goto rfl ?_
                refine q_iload_n rfl rfl rfl ?_
                refine q_bipush rfl rfl ?_
                refine q_icge rfl rfl (fun c1128 => absurd c1128 (by decide)) (fun c1128 => ?_)
                refine q_aload_n rfl rfl rfl ?_
                refine q_getf rfl rfl (by decide) (FW_46 S hW) rfl ?_
                refine q_bipush rfl rfl ?_
                refine q_iload_n rfl rfl rfl ?_
                refine q_imul rfl rfl (q_tn (z := 420) rfl ?_)
                refine q_iload_n rfl rfl rfl ?_
                refine q_iadd rfl rfl (q_tn (z := 433) rfl ?_)
                refine q_lconst rfl rfl ?_
                refine q_last rfl rfl (by decide) rfl (by decide) ?_
                refine q_icc2 (z := 14) rfl rfl rfl rfl rfl ?_
                refine q_goto rfl ?_
                refine q_iload_n rfl rfl rfl ?_
                refine q_bipush rfl rfl ?_
                refine q_icge rfl rfl (fun c1129 => absurd c1129 (by decide)) (fun c1129 => ?_)
                refine q_aload_n rfl rfl rfl ?_
                refine q_getf rfl rfl (by decide) (FW_46 S hW) rfl ?_
                refine q_bipush rfl rfl ?_
                refine q_iload_n rfl rfl rfl ?_
                refine q_imul rfl rfl (q_tn (z := 420) rfl ?_)
                refine q_iload_n rfl rfl rfl ?_
                refine q_iadd rfl rfl (q_tn (z := 434) rfl ?_)
                refine q_lconst rfl rfl ?_
                refine q_last rfl rfl (by decide) rfl (by decide) ?_
                refine q_icc2 (z := 15) rfl rfl rfl rfl rfl ?_
                refine q_goto rfl ?_
                refine q_iload_n rfl rfl rfl ?_
                refine q_bipush rfl rfl ?_
                refine q_icge rfl rfl (fun c1130 => absurd c1130 (by decide)) (fun c1130 => ?_)
                refine q_aload_n rfl rfl rfl ?_
                refine q_getf rfl rfl (by decide) (FW_46 S hW) rfl ?_
                refine q_bipush rfl rfl ?_
                refine q_iload_n rfl rfl rfl ?_
                refine q_imul rfl rfl (q_tn (z := 420) rfl ?_)
                refine q_iload_n rfl rfl rfl ?_
                refine q_iadd rfl rfl (q_tn (z := 435) rfl ?_)
                refine q_lconst rfl rfl ?_
                refine q_last rfl rfl (by decide) rfl (by decide) ?_
                refine q_icc2 (z := 16) rfl rfl rfl rfl rfl ?_
                refine q_goto rfl ?_
                refine q_iload_n rfl rfl rfl ?_
                refine q_bipush rfl rfl ?_
                refine q_icge rfl rfl (fun c1131 => absurd c1131 (by decide)) (fun c1131 => ?_)
                refine q_aload_n rfl rfl rfl ?_
                refine q_getf rfl rfl (by decide) (FW_46 S hW) rfl ?_
                refine q_bipush rfl rfl ?_
                refine q_iload_n rfl rfl rfl ?_
                refine q_imul rfl rfl (q_tn (z := 420) rfl ?_)
                refine q_iload_n rfl rfl rfl ?_
                refine q_iadd rfl rfl (q_tn (z := 436) rfl ?_)
                refine q_lconst rfl rfl ?_
                refine q_last rfl rfl (by decide) rfl (by decide) ?_
                refine q_icc2 (z := 17) rfl rfl rfl rfl rfl ?_
                refine q_goto rfl ?_
                refine q_iload_n rfl rfl rfl ?_
                refine q_bipush rfl rfl ?_
                refine q_icge rfl rfl (fun c1132 => absurd c1132 (by decide)) (fun c1132 => ?_)
                refine q_aload_n rfl rfl rfl ?_
                refine q_getf rfl rfl (by decide) (FW_46 S hW) rfl ?_
                refine q_bipush rfl rfl ?_
                refine q_iload_n rfl rfl rfl ?_
                refine q_imul rfl rfl (q_tn (z := 420) rfl ?_)
                refine q_iload_n rfl rfl rfl ?_
                refine q_iadd rfl rfl (q_tn (z := 437) rfl ?_)
                refine q_lconst rfl rfl ?_
                refine q_last rfl rfl (by decide) rfl (by decide) ?_
                refine q_icc2 (z := 18) rfl rfl rfl rfl rfl ?_
                refine q_goto rfl ?_
                refine q_iload_n rfl rfl rfl ?_
                refine q_bipush rfl rfl ?_
                refine q_icge rfl rfl (fun c1133 => absurd c1133 (by decide)) (fun c1133 => ?_)
                refine q_aload_n rfl rfl rfl ?_
                refine q_getf rfl rfl (by decide) (FW_46 S hW) rfl ?_
                refine q_bipush rfl rfl ?_
                refine q_iload_n rfl rfl rfl ?_
                refine q_imul rfl rfl (q_tn (z := 420) rfl ?_)
                refine q_iload_n rfl rfl rfl ?_
                refine q_iadd rfl rfl (q_tn (z := 438) rfl ?_)
                refine q_lconst rfl rfl ?_
                refine q_last rfl rfl (by decide) rfl (by decide) ?_
                refine q_icc2 (z := 19) rfl rfl rfl rfl rfl ?_
                refine q_goto rfl ?_
                refine q_iload_n rfl rfl rfl ?_
                refine q_bipush rfl rfl ?_
                refine q_icge rfl rfl (fun c1134 => absurd c1134 (by decide)) (fun c1134 => ?_)
                refine q_aload_n rfl rfl rfl ?_
                refine q_getf rfl rfl (by decide) (FW_46 S hW) rfl ?_
                refine q_bipush rfl rfl ?_
                refine q_iload_n rfl rfl rfl ?_
                refine q_imul rfl rfl (q_tn (z := 420) rfl ?_)
                refine q_iload_n rfl rfl rfl ?_
                refine q_iadd rfl rfl (q_tn (z := 439) rfl ?_)
                refine q_lconst rfl rfl ?_
                refine q_last rfl rfl (by decide) rfl (by decide) ?_
                refine q_icc2 (z := 20) rfl rfl rfl rfl rfl ?_
                refine q_goto rfl ?_
                refine q_iload_n rfl rfl rfl ?_
                refine q_bipush rfl rfl ?_
                refine q_icge rfl rfl (fun c1135 => absurd c1135 (by decide)) (fun c1135 => ?_)
                refine q_aload_n rfl rfl rfl ?_
                refine q_getf rfl rfl (by decide) (FW_46 S hW) rfl ?_
                refine q_bipush rfl rfl ?_
                refine q_iload_n rfl rfl rfl ?_
                refine q_imul rfl rfl (q_tn (z := 420) rfl ?_)
                refine q_iload_n rfl rfl rfl ?_
                refine q_iadd rfl rfl (q_tn (z := 440) rfl ?_)
                refine q_lconst rfl rfl ?_
                refine q_last rfl rfl (by decide) rfl (by decide) ?_
                refine q_icc2 (z := 21) rfl rfl rfl rfl rfl ?_
                refine q_goto rfl ?_
                refine q_iload_n rfl rfl rfl ?_
                refine q_bipush rfl rfl ?_
                refine q_icge rfl rfl (fun c1136 => absurd c1136 (by decide)) (fun c1136 => ?_)
                refine q_aload_n rfl rfl rfl ?_
                refine q_getf rfl rfl (by decide) (FW_46 S hW) rfl ?_
                refine q_bipush rfl rfl ?_
                refine q_iload_n rfl rfl rfl ?_
                refine q_imul rfl rfl (q_tn (z := 420) rfl ?_)
                refine q_iload_n rfl rfl rfl ?_
                refine q_iadd rfl rfl (q_tn (z := 441) rfl ?_)
                refine q_lconst rfl rfl ?_
                refine q_last rfl rfl (by decide) rfl (by decide) ?_
                refine q_icc2 (z := 22) rfl rfl rfl rfl rfl ?_
                refine q_goto rfl ?_
                refine q_iload_n rfl rfl rfl ?_
                refine q_bipush rfl rfl ?_
                refine q_icge rfl rfl (fun c1137 => absurd c1137 (by decide)) (fun c1137 => ?_)
                refine q_aload_n rfl rfl rfl ?_
                refine q_getf rfl rfl (by decide) (FW_46 S hW) rfl ?_
                refine q_bipush rfl rfl ?_
                refine q_iload_n rfl rfl rfl ?_
                refine q_imul rfl rfl (q_tn (z := 420) rfl ?_)
                refine q_iload_n rfl rfl rfl ?_
                refine q_iadd rfl rfl (q_tn (z := 442) rfl ?_)
                refine q_lconst rfl rfl ?_
                refine q_last rfl rfl (by decide) rfl (by decide) ?_
                refine q_icc2 (z := 23) rfl rfl rfl rfl rfl ?_
                refine q_goto rfl ?_
                refine q_iload_n rfl rfl rfl ?_
                refine q_bipush rfl rfl ?_
                refine q_icge rfl rfl (fun c1138 => absurd c1138 (by decide)) (fun c1138 => ?_)
                refine q_aload_n rfl rfl rfl ?_
                refine q_getf rfl rfl (by decide) (FW_46 S hW) rfl ?_
                refine q_bipush rfl rfl ?_
                refine q_iload_n rfl rfl rfl ?_
                refine q_imul rfl rfl (q_tn (z := 420) rfl ?_)
                refine q_iload_n rfl rfl rfl ?_
                refine q_iadd rfl rfl (q_tn (z := 443) rfl ?_)
                refine q_lconst rfl rfl ?_
                refine q_last rfl rfl (by decide) rfl (by decide) ?_
                refine q_icc2 (z := 24) rfl rfl rfl rfl rfl ?_
                refine q_goto rfl ?_
                refine q_iload_n rfl rfl rfl ?_
                refine q_bipush rfl rfl ?_
                refine q_icge rfl rfl (fun c1139 => absurd c1139 (by decide)) (fun c1139 => ?_)
                refine q_aload_n rfl rfl rfl ?_
                refine q_getf rfl rfl (by decide) (FW_46 S hW) rfl ?_
                refine q_bipush rfl rfl ?_
                refine q_iload_n rfl rfl rfl ?_
                refine q_imul rfl rfl (q_tn (z := 420) rfl ?_)
                refine q_iload_n rfl rfl rfl ?_
                refine q_iadd rfl rfl (q_tn (z := 444) rfl ?_)
                refine q_lconst rfl rfl ?_
                refine q_last rfl rfl (by decide) rfl (by decide) ?_
                refine q_icc2 (z := 25) rfl rfl rfl rfl rfl ?_
                refine q_goto rfl ?_
                refine q_iload_n rfl rfl rfl ?_
                refine q_bipush rfl rfl ?_
                refine q_icge rfl rfl (fun c1140 => absurd c1140 (by decide)) (fun c1140 => ?_)
                refine q_aload_n rfl rfl rfl ?_
                refine q_getf rfl rfl (by decide) (FW_46 S hW) rfl ?_
                refine q_bipush rfl rfl ?_
                refine q_iload_n rfl rfl rfl ?_
                refine q_imul rfl rfl (q_tn (z := 420) rfl ?_)
                refine q_iload_n rfl rfl rfl ?_
                refine q_iadd rfl rfl (q_tn (z := 445) rfl ?_)
                refine q_lconst rfl rfl ?_
                refine q_last rfl rfl (by decide) rfl (by decide) ?_
                refine q_icc2 (z := 26) rfl rfl rfl rfl rfl ?_
                refine q_goto rfl ?_
                refine q_iload_n rfl rfl rfl ?_
                refine q_bipush rfl rfl ?_
                refine q_icge rfl rfl (fun c1141 => absurd c1141 (by decide)) (fun c1141 => ?_)
                refine q_aload_n rfl rfl rfl ?_
                refine q_getf rfl rfl (by decide) (FW_46 S hW) rfl ?_
                refine q_bipush rfl rfl ?_
                refine q_iload_n rfl rfl rfl ?_
                refine q_imul rfl rfl (q_tn (z := 420) rfl ?_)
                refine q_iload_n rfl rfl rfl ?_
                refine q_iadd rfl rfl (q_tn (z := 446) rfl ?_)
                refine q_lconst rfl rfl ?_
                refine q_last rfl rfl (by decide) rfl (by decide) ?_
                refine q_icc2 (z := 27) rfl rfl rfl rfl rfl ?_
                refine q_goto rfl ?_
                refine q_iload_n rfl rfl rfl ?_
                refine q_bipush rfl rfl ?_
                refine q_icge rfl rfl (fun c1142 => absurd c1142 (by decide)) (fun c1142 => ?_)
                refine q_aload_n rfl rfl rfl ?_
                refine q_getf rfl rfl (by decide) (FW_46 S hW) rfl ?_
                refine q_bipush rfl rfl ?_
                refine q_iload_n rfl rfl rfl ?_
                refine q_imul rfl rfl (q_tn (z := 420) rfl ?_)
                refine q_iload_n rfl rfl rfl ?_
                refine q_iadd rfl rfl (q_tn (z := 447) rfl ?_)
                refine q_lconst rfl rfl ?_
                refine q_last rfl rfl (by decide) rfl (by decide) ?_
                refine q_icc2 (z := 28) rfl rfl rfl rfl rfl ?_
                refine q_goto rfl ?_
                refine q_iload_n rfl rfl rfl ?_
                refine q_bipush rfl rfl ?_
                refine q_icge rfl rfl (fun c1143 => absurd c1143 (by decide)) (fun c1143 => ?_)
                refine q_aload_n rfl rfl rfl ?_
                refine q_getf rfl rfl (by decide) (FW_46 S hW) rfl ?_
                refine q_bipush rfl rfl ?_
                refine q_iload_n rfl rfl rfl ?_
                refine q_imul rfl rfl (q_tn (z := 420) rfl ?_)
                refine q_iload_n rfl rfl rfl ?_
                refine q_iadd rfl rfl (q_tn (z := 448) rfl ?_)
                refine q_lconst rfl rfl ?_
                refine q_last rfl rfl (by decide) rfl (by decide) ?_
                refine q_icc2 (z := 29) rfl rfl rfl rfl rfl ?_
                refine q_goto rfl ?_
                refine q_iload_n rfl rfl rfl ?_
                refine q_bipush rfl rfl ?_
                refine q_icge rfl rfl (fun c1144 => absurd c1144 (by decide)) (fun c1144 => ?_)
                refine q_aload_n rfl rfl rfl ?_
                refine q_getf rfl rfl (by decide) (FW_46 S hW) rfl ?_
                refine q_bipush rfl rfl ?_
                refine q_iload_n rfl rfl rfl ?_
                refine q_imul rfl rfl (q_tn (z := 420) rfl ?_)
                refine q_iload_n rfl rfl rfl ?_
                refine q_iadd rfl rfl (q_tn (z := 449) rfl ?_)
                refine q_lconst rfl rfl ?_
                refine q_last rfl rfl (by decide) rfl (by decide) ?_
                refine q_icc2 (z := 30) rfl rfl rfl rfl rfl ?_
                refine q_goto rfl ?_
                refine q_iload_n rfl rfl rfl ?_
                refine q_bipush rfl rfl ?_
                refine q_icge rfl rfl (fun c1145 => absurd c1145 (by decide)) (fun c1145 => ?_)
                refine q_aload_n rfl rfl rfl ?_
                refine q_getf rfl rfl (by decide) (FW_46 S hW) rfl ?_
                refine q_bipush rfl rfl ?_
                refine q_iload_n rfl rfl rfl ?_
                refine q_imul rfl rfl (q_tn (z := 420) rfl ?_)
                refine q_iload_n rfl rfl rfl ?_
                refine q_iadd rfl rfl (q_tn (z := 450) rfl ?_)
                refine q_lconst rfl rfl ?_
                refine q_last rfl rfl (by decide) rfl (by decide) ?_
                refine q_icc2 (z := 31) rfl rfl rfl rfl rfl ?_
                refine q_goto rfl ?_
                refine q_iload_n rfl rfl rfl ?_
                refine q_bipush rfl rfl ?_
                refine q_icge rfl rfl (fun c1146 => absurd c1146 (by decide)) (fun c1146 => ?_)
                refine q_aload_n rfl rfl rfl ?_
                refine q_getf rfl rfl (by decide) (FW_46 S hW) rfl ?_
                refine q_bipush rfl rfl ?_
                refine q_iload_n rfl rfl rfl ?_
                refine q_imul rfl rfl (q_tn (z := 420) rfl ?_)
                refine q_iload_n rfl rfl rfl ?_
                refine q_iadd rfl rfl (q_tn (z := 451) rfl ?_)
                refine q_lconst rfl rfl ?_
                refine q_last rfl rfl (by decide) rfl (by decide) ?_
                refine q_icc2 (z := 32) rfl rfl rfl rfl rfl ?_
                refine q_goto rfl ?_
                refine q_iload_n rfl rfl rfl ?_
                refine q_bipush rfl rfl ?_
                refine q_icge rfl rfl (fun c1147 => absurd c1147 (by decide)) (fun c1147 => ?_)
                refine q_aload_n rfl rfl rfl ?_
                refine q_getf rfl rfl (by decide) (FW_46 S hW) rfl ?_
                refine q_bipush rfl rfl ?_
                refine q_iload_n rfl rfl rfl ?_
                refine q_imul rfl rfl (q_tn (z := 420) rfl ?_)
                refine q_iload_n rfl rfl rfl ?_
                refine q_iadd rfl rfl (q_tn (z := 452) rfl ?_)
                refine q_lconst rfl rfl ?_
                refine q_last rfl rfl (by decide) rfl (by decide) ?_
                refine q_icc2 (z := 33) rfl rfl rfl rfl rfl ?_
                refine q_goto rfl ?_
                refine q_iload_n rfl rfl rfl ?_
                refine q_bipush rfl rfl ?_
                refine q_icge rfl rfl (fun c1148 => absurd c1148 (by decide)) (fun c1148 => ?_)
                refine q_aload_n rfl rfl rfl ?_
                refine q_getf rfl rfl (by decide) (FW_46 S hW) rfl ?_
                refine q_bipush rfl rfl ?_
                refine q_iload_n rfl rfl rfl ?_
                refine q_imul rfl rfl (q_tn (z := 420) rfl ?_)
                refine q_iload_n rfl rfl rfl ?_
                refine q_iadd rfl rfl (q_tn (z := 453) rfl ?_)
                refine q_lconst rfl rfl ?_
                refine q_last rfl rfl (by decide) rfl (by decide) ?_
                refine q_icc2 (z := 34) rfl rfl rfl rfl rfl ?_
                refine q_goto rfl ?_
                refine q_iload_n rfl rfl rfl ?_
                refine q_bipush rfl rfl ?_
                refine q_icge rfl rfl (fun c1149 => absurd c1149 (by decide)) (fun c1149 => ?_)
                refine q_aload_n rfl rfl rfl ?_
                refine q_getf rfl rfl (by decide) (FW_46 S hW) rfl ?_
                refine q_bipush rfl rfl ?_
                refine q_iload_n rfl rfl rfl ?_
                refine q_imul rfl rfl (q_tn (z := 420) rfl ?_)
                refine q_iload_n rfl rfl rfl ?_
                refine q_iadd rfl rfl (q_tn (z := 454) rfl ?_)
                refine q_lconst rfl rfl ?_
                refine q_last rfl rfl (by decide) rfl (by decide) ?_
                refine q_icc2 (z := 35) rfl rfl rfl rfl rfl ?_
                refine q_goto rfl ?_
                refine q_iload_n rfl rfl rfl ?_
                refine q_bipush rfl rfl ?_
                refine q_icge rfl rfl (fun c1150 => absurd c1150 (by decide)) (fun c1150 => ?_)
                refine q_aload_n rfl rfl rfl ?_
                refine q_getf rfl rfl (by decide) (FW_46 S hW) rfl ?_
                refine q_bipush rfl rfl ?_
                refine q_iload_n rfl rfl rfl ?_
                refine q_imul rfl rfl (q_tn (z := 420) rfl ?_)
                refine q_iload_n rfl rfl rfl ?_
                refine q_iadd rfl rfl (q_tn (z := 455) rfl ?_)
                refine q_lconst rfl rfl ?_
                refine q_last rfl rfl (by decide) rfl (by decide) ?_
                refine q_icc2 (z := 36) rfl rfl rfl rfl rfl ?_
                refine q_goto rfl ?_
                refine q_iload_n rfl rfl rfl ?_
                refine q_bipush rfl rfl ?_
                refine q_icge rfl rfl (fun c1151 => absurd c1151 (by decide)) (fun c1151 => ?_)
                refine q_aload_n rfl rfl rfl ?_
                refine q_getf rfl rfl (by decide) (FW_46 S hW) rfl ?_
                refine q_bipush rfl rfl ?_
                refine q_iload_n rfl rfl rfl ?_
                refine q_imul rfl rfl (q_tn (z := 420) rfl ?_)
                refine q_iload_n rfl rfl rfl ?_
                refine q_iadd rfl rfl (q_tn (z := 456) rfl ?_)
                refine q_lconst rfl rfl ?_
                refine q_last rfl rfl (by decide) rfl (by decide) ?_
                refine q_icc2 (z := 37) rfl rfl rfl rfl rfl ?_
                refine q_goto rfl ?_
                refine q_iload_n rfl rfl rfl ?_
                refine q_bipush rfl rfl ?_
                refine q_icge rfl rfl (fun c1152 => absurd c1152 (by decide)) (fun c1152 => ?_)
                refine q_aload_n rfl rfl rfl ?_
                refine q_getf rfl rfl (by decide) (FW_46 S hW) rfl ?_
                refine q_bipush rfl rfl ?_
                refine q_iload_n rfl rfl rfl ?_
                refine q_imul rfl rfl (q_tn (z := 420) rfl ?_)
                refine q_iload_n rfl rfl rfl ?_
                refine q_iadd rfl rfl (q_tn (z := 457) rfl ?_)
                refine q_lconst rfl rfl ?_
                refine q_last rfl rfl (by decide) rfl (by decide) ?_
                refine q_icc2 (z := 38) rfl rfl rfl rfl rfl ?_
                refine q_goto rfl ?_
                refine q_iload_n rfl rfl rfl ?_
                refine q_bipush rfl rfl ?_
                refine q_icge rfl rfl (fun c1153 => absurd c1153 (by decide)) (fun c1153 => ?_)
                refine q_aload_n rfl rfl rfl ?_
                refine q_getf rfl rfl (by decide) (FW_46 S hW) rfl ?_
                refine q_bipush rfl rfl ?_
                refine q_iload_n rfl rfl rfl ?_
                refine q_imul rfl rfl (q_tn (z := 420) rfl ?_)
                refine q_iload_n rfl rfl rfl ?_
                refine q_iadd rfl rfl (q_tn (z := 458) rfl ?_)
                refine q_lconst rfl rfl ?_
                refine q_last rfl rfl (by decide) rfl (by decide) ?_
                refine q_icc2 (z := 39) rfl rfl rfl rfl rfl ?_
                refine q_goto rfl ?_
                refine q_iload_n rfl rfl rfl ?_
                refine q_bipush rfl rfl ?_
                refine q_icge rfl rfl (fun c1154 => absurd c1154 (by decide)) (fun c1154 => ?_)
                refine q_aload_n rfl rfl rfl ?_
                refine q_getf rfl rfl (by decide) (FW_46 S hW) rfl ?_
                refine q_bipush rfl rfl ?_
                refine q_iload_n rfl rfl rfl ?_
                refine q_imul rfl rfl (q_tn (z := 420) rfl ?_)
                refine q_iload_n rfl rfl rfl ?_
                refine q_iadd rfl rfl (q_tn (z := 459) rfl ?_)
                refine q_lconst rfl rfl ?_
                refine q_last rfl rfl (by decide) rfl (by decide) ?_
                refine q_icc2 (z := 40) rfl rfl rfl rfl rfl ?_
                refine q_goto rfl ?_
                refine q_iload_n rfl rfl rfl ?_
                refine q_bipush rfl rfl ?_
                refine q_icge rfl rfl (fun c1155 => absurd c1155 (by decide)) (fun c1155 => ?_)
                refine q_aload_n rfl rfl rfl ?_
                refine q_getf rfl rfl (by decide) (FW_46 S hW) rfl ?_
                refine q_bipush rfl rfl ?_
                refine q_iload_n rfl rfl rfl ?_
                refine q_imul rfl rfl (q_tn (z := 420) rfl ?_)
                refine q_iload_n rfl rfl rfl ?_
                refine q_iadd rfl rfl (q_tn (z := 460) rfl ?_)
                refine q_lconst rfl rfl ?_
                refine q_last rfl rfl (by decide) rfl (by decide) ?_
                refine q_icc2 (z := 41) rfl rfl rfl rfl rfl ?_
                refine q_goto rfl ?_
                refine q_iload_n rfl rfl rfl ?_
                refine q_bipush rfl rfl ?_
                refine q_icge rfl rfl (fun c1156 => absurd c1156 (by decide)) (fun c1156 => ?_)
                refine q_aload_n rfl rfl rfl ?_
                refine q_getf rfl rfl (by decide) (FW_46 S hW) rfl ?_
                refine q_bipush rfl rfl ?_
                refine q_iload_n rfl rfl rfl ?_
                refine q_imul rfl rfl (q_tn (z := 420) rfl ?_)
                refine q_iload_n rfl rfl rfl ?_
                refine q_iadd rfl rfl (q_tn (z := 461) rfl ?_)
                refine q_lconst rfl rfl ?_
                refine q_last rfl rfl (by decide) rfl (by decide) ?_
                refine q_icc2 (z := 42) rfl rfl rfl rfl rfl ?_
                refine q_goto rfl ?_
                refine q_iload_n rfl rfl rfl ?_
                refine q_bipush rfl rfl ?_
                refine q_icge rfl rfl (fun c1157 => absurd c1157 (by decide)) (fun c1157 => ?_)
                refine q_aload_n rfl rfl rfl ?_
                refine q_getf rfl rfl (by decide) (FW_46 S hW) rfl ?_
                refine q_bipush rfl rfl ?_
                refine q_iload_n rfl rfl rfl ?_
                refine q_imul rfl rfl (q_tn (z := 420) rfl ?_)
                refine q_iload_n rfl rfl rfl ?_
                refine q_iadd rfl rfl (q_tn (z := 462) rfl ?_)
                refine q_lconst rfl rfl ?_
                refine q_last rfl rfl (by decide) rfl (by decide) ?_
                refine q_icc2 (z := 43) rfl rfl rfl rfl rfl ?_
                refine q_goto rfl ?_
                refine q_iload_n rfl rfl rfl ?_
                refine q_bipush rfl rfl ?_
                refine q_icge rfl rfl (fun c1158 => absurd c1158 (by decide)) (fun c1158 => ?_)
                refine q_aload_n rfl rfl rfl ?_
                refine q_getf rfl rfl (by decide) (FW_46 S hW) rfl ?_
                refine q_bipush rfl rfl ?_
                refine q_iload_n rfl rfl rfl ?_
                refine q_imul rfl rfl (q_tn (z := 420) rfl ?_)
                refine q_iload_n rfl rfl rfl ?_
                refine q_iadd rfl rfl (q_tn (z := 463) rfl ?_)
                refine q_lconst rfl rfl ?_
                refine q_last rfl rfl (by decide) rfl (by decide) ?_
                refine q_icc2 (z := 44) rfl rfl rfl rfl rfl ?_
                refine q_goto rfl ?_
                refine q_iload_n rfl rfl rfl ?_
                refine q_bipush rfl rfl ?_
                refine q_icge rfl rfl (fun c1159 => absurd c1159 (by decide)) (fun c1159 => ?_)
                refine q_aload_n rfl rfl rfl ?_
                refine q_getf rfl rfl (by decide) (FW_46 S hW) rfl ?_
                refine q_bipush rfl rfl ?_
                refine q_iload_n rfl rfl rfl ?_
                refine q_imul rfl rfl (q_tn (z := 420) rfl ?_)
                refine q_iload_n rfl rfl rfl ?_
                refine q_iadd rfl rfl (q_tn (z := 464) rfl ?_)
                refine q_lconst rfl rfl ?_
                refine q_last rfl rfl (by decide) rfl (by decide) ?_
                refine q_icc2 (z := 45) rfl rfl rfl rfl rfl ?_
                refine q_goto rfl ?_
                refine q_iload_n rfl rfl rfl ?_
                refine q_bipush rfl rfl ?_
                refine q_icge rfl rfl (fun c1160 => absurd c1160 (by decide)) (fun c1160 => ?_)
                refine q_aload_n rfl rfl rfl ?_
                refine q_getf rfl rfl (by decide) (FW_46 S hW) rfl ?_
                refine q_bipush rfl rfl ?_
                refine q_iload_n rfl rfl rfl ?_
                refine q_imul rfl rfl (q_tn (z := 420) rfl ?_)
                refine q_iload_n rfl rfl rfl ?_
                refine q_iadd rfl rfl (q_tn (z := 465) rfl ?_)
                refine q_lconst rfl rfl ?_
                refine q_last rfl rfl (by decide) rfl (by decide) ?_
                refine q_icc2 (z := 46) rfl rfl rfl rfl rfl ?_
                refine q_goto rfl ?_
                refine q_iload_n rfl rfl rfl ?_
                refine q_bipush rfl rfl ?_
                refine q_icge rfl rfl (fun c1161 => absurd c1161 (by decide)) (fun c1161 => ?_)
                refine q_aload_n rfl rfl rfl ?_
                refine q_getf rfl rfl (by decide) (FW_46 S hW) rfl ?_
                refine q_bipush rfl rfl ?_
                refine q_iload_n rfl rfl rfl ?_
                refine q_imul rfl rfl (q_tn (z := 420) rfl ?_)
                refine q_iload_n rfl rfl rfl ?_
                refine q_iadd rfl rfl (q_tn (z := 466) rfl ?_)
                refine q_lconst rfl rfl ?_
                refine q_last rfl rfl (by decide) rfl (by decide) ?_
                refine q_icc2 (z := 47) rfl rfl rfl rfl rfl ?_
                refine q_goto rfl ?_
                refine q_iload_n rfl rfl rfl ?_
                refine q_bipush rfl rfl ?_
                refine q_icge rfl rfl (fun c1162 => absurd c1162 (by decide)) (fun c1162 => ?_)
                refine q_aload_n rfl rfl rfl ?_
                refine q_getf rfl rfl (by decide) (FW_46 S hW) rfl ?_
                refine q_bipush rfl rfl ?_
                refine q_iload_n rfl rfl rfl ?_
                refine q_imul rfl rfl (q_tn (z := 420) rfl ?_)
                refine q_iload_n rfl rfl rfl ?_
                refine q_iadd rfl rfl (q_tn (z := 467) rfl ?_)
                refine q_lconst rfl rfl ?_
                refine q_last rfl rfl (by decide) rfl (by decide) ?_
                refine q_icc2 (z := 48) rfl rfl rfl rfl rfl ?_
                refine q_goto rfl ?_
                refine q_iload_n rfl rfl rfl ?_
                refine q_bipush rfl rfl ?_
                refine q_icge rfl rfl (fun c1163 => absurd c1163 (by decide)) (fun c1163 => ?_)
                refine q_aload_n rfl rfl rfl ?_
                refine q_getf rfl rfl (by decide) (FW_46 S hW) rfl ?_
                refine q_bipush rfl rfl ?_
                refine q_iload_n rfl rfl rfl ?_
                refine q_imul rfl rfl (q_tn (z := 420) rfl ?_)
                refine q_iload_n rfl rfl rfl ?_
                refine q_iadd rfl rfl (q_tn (z := 468) rfl ?_)
                refine q_lconst rfl rfl ?_
                refine q_last rfl rfl (by decide) rfl (by decide) ?_
                refine q_icc2 (z := 49) rfl rfl rfl rfl rfl ?_
                refine q_goto rfl ?_
                refine q_iload_n rfl rfl rfl ?_
                refine q_bipush rfl rfl ?_
                refine q_icge rfl rfl (fun c1164 => absurd c1164 (by decide)) (fun c1164 => ?_)
                refine q_aload_n rfl rfl rfl ?_
                refine q_getf rfl rfl (by decide) (FW_46 S hW) rfl ?_
                refine q_bipush rfl rfl ?_
                refine q_iload_n rfl rfl rfl ?_
                refine q_imul rfl rfl (q_tn (z := 420) rfl ?_)
                refine q_iload_n rfl rfl rfl ?_
                refine q_iadd rfl rfl (q_tn (z := 469) rfl ?_)
                refine q_lconst rfl rfl ?_
                refine q_last rfl rfl (by decide) rfl (by decide) ?_
                refine q_icc2 (z := 50) rfl rfl rfl rfl rfl ?_
                refine q_goto rfl ?_
                refine q_iload_n rfl rfl rfl ?_
                refine q_bipush rfl rfl ?_
                refine q_icge rfl rfl (fun c1165 => absurd c1165 (by decide)) (fun c1165 => ?_)
                refine q_aload_n rfl rfl rfl ?_
                refine q_getf rfl rfl (by decide) (FW_46 S hW) rfl ?_
                refine q_bipush rfl rfl ?_
                refine q_iload_n rfl rfl rfl ?_
                refine q_imul rfl rfl (q_tn (z := 420) rfl ?_)
                refine q_iload_n rfl rfl rfl ?_
                refine q_iadd rfl rfl (q_tn (z := 470) rfl ?_)
                refine q_lconst rfl rfl ?_
                refine q_last rfl rfl (by decide) rfl (by decide) ?_
                refine q_icc2 (z := 51) rfl rfl rfl rfl rfl ?_
                refine q_goto rfl ?_
                refine q_iload_n rfl rfl rfl ?_
                refine q_bipush rfl rfl ?_
                refine q_icge rfl rfl (fun c1166 => absurd c1166 (by decide)) (fun c1166 => ?_)
                refine q_aload_n rfl rfl rfl ?_
                refine q_getf rfl rfl (by decide) (FW_46 S hW) rfl ?_
                refine q_bipush rfl rfl ?_
                refine q_iload_n rfl rfl rfl ?_
                refine q_imul rfl rfl (q_tn (z := 420) rfl ?_)
                refine q_iload_n rfl rfl rfl ?_
                refine q_iadd rfl rfl (q_tn (z := 471) rfl ?_)
                refine q_lconst rfl rfl ?_
                refine q_last rfl rfl (by decide) rfl (by decide) ?_
                refine q_icc2 (z := 52) rfl rfl rfl rfl rfl ?_
                refine q_goto rfl ?_
                refine q_iload_n rfl rfl rfl ?_
                refine q_bipush rfl rfl ?_
                refine q_icge rfl rfl (fun c1167 => absurd c1167 (by decide)) (fun c1167 => ?_)
                refine q_aload_n rfl rfl rfl ?_
                refine q_getf rfl rfl (by decide) (FW_46 S hW) rfl ?_
                refine q_bipush rfl rfl ?_
                refine q_iload_n rfl rfl rfl ?_
                refine q_imul rfl rfl (q_tn (z := 420) rfl ?_)
                refine q_iload_n rfl rfl rfl ?_
                refine q_iadd rfl rfl (q_tn (z := 472) rfl ?_)
                refine q_lconst rfl rfl ?_
                refine q_last rfl rfl (by decide) rfl (by decide) ?_
                refine q_icc2 (z := 53) rfl rfl rfl rfl rfl ?_
                refine q_goto rfl ?_
                refine q_iload_n rfl rfl rfl ?_
                refine q_bipush rfl rfl ?_
                refine q_icge rfl rfl (fun c1168 => absurd c1168 (by decide)) (fun c1168 => ?_)
                refine q_aload_n rfl rfl rfl ?_
                refine q_getf rfl rfl (by decide) (FW_46 S hW) rfl ?_
                refine q_bipush rfl rfl ?_
                refine q_iload_n rfl rfl rfl ?_
                refine q_imul rfl rfl (q_tn (z := 420) rfl ?_)
                refine q_iload_n rfl rfl rfl ?_
                refine q_iadd rfl rfl (q_tn (z := 473) rfl ?_)
                refine q_lconst rfl rfl ?_
                refine q_last rfl rfl (by decide) rfl (by decide) ?_
                refine q_icc2 (z := 54) rfl rfl rfl rfl rfl ?_
                refine q_goto rfl ?_
                refine q_iload_n rfl rfl rfl ?_
                refine q_bipush rfl rfl ?_
                refine q_icge rfl rfl (fun c1169 => absurd c1169 (by decide)) (fun c1169 => ?_)
                refine q_aload_n rfl rfl rfl ?_
                refine q_getf rfl rfl (by decide) (FW_46 S hW) rfl ?_
                refine q_bipush rfl rfl ?_
                refine q_iload_n rfl rfl rfl ?_
                refine q_imul rfl rfl (q_tn (z := 420) rfl ?_)
                refine q_iload_n rfl rfl rfl ?_
                refine q_iadd rfl rfl (q_tn (z := 474) rfl ?_)
                refine q_lconst rfl rfl ?_
                refine q_last rfl rfl (by decide) rfl (by decide) ?_
                refine q_icc2 (z := 55) rfl rfl rfl rfl rfl ?_
                refine q_goto rfl ?_
                refine q_iload_n rfl rfl rfl ?_
                refine q_bipush rfl rfl ?_
                refine q_icge rfl rfl (fun c1170 => absurd c1170 (by decide)) (fun c1170 => ?_)
                refine q_aload_n rfl rfl rfl ?_
                refine q_getf rfl rfl (by decide) (FW_46 S hW) rfl ?_
                refine q_bipush rfl rfl ?_
                refine q_iload_n rfl rfl rfl ?_
                refine q_imul rfl rfl (q_tn (z := 420) rfl ?_)
                refine q_iload_n rfl rfl rfl ?_
                refine q_iadd rfl rfl (q_tn (z := 475) rfl ?_)
                refine q_lconst rfl rfl ?_
                refine q_last rfl rfl (by decide) rfl (by decide) ?_
                refine q_icc2 (z := 56) rfl rfl rfl rfl rfl ?_
                refine q_goto rfl ?_
                refine q_iload_n rfl rfl rfl ?_
                refine q_bipush rfl rfl ?_
                refine q_icge rfl rfl (fun c1171 => absurd c1171 (by decide)) (fun c1171 => ?_)
                refine q_aload_n rfl rfl rfl ?_
                refine q_getf rfl rfl (by decide) (FW_46 S hW) rfl ?_
                refine q_bipush rfl rfl ?_
                refine q_iload_n rfl rfl rfl ?_
                refine q_imul rfl rfl (q_tn (z := 420) rfl ?_)
                refine q_iload_n rfl rfl rfl ?_
                refine q_iadd rfl rfl (q_tn (z := 476) rfl ?_)
                refine q_lconst rfl rfl ?_
                refine q_last rfl rfl (by decide) rfl (by decide) ?_
                refine q_icc2 (z := 57) rfl rfl rfl rfl rfl ?_
                refine q_goto rfl ?_
                refine q_iload_n rfl rfl rfl ?_
                refine q_bipush rfl rfl ?_
                refine q_icge rfl rfl (fun c1172 => absurd c1172 (by decide)) (fun c1172 => ?_)
                refine q_aload_n rfl rfl rfl ?_
                refine q_getf rfl rfl (by decide) (FW_46 S hW) rfl ?_
                refine q_bipush rfl rfl ?_
                refine q_iload_n rfl rfl rfl ?_
                refine q_imul rfl rfl (q_tn (z := 420) rfl ?_)
                refine q_iload_n rfl rfl rfl ?_
                refine q_iadd rfl rfl (q_tn (z := 477) rfl ?_)
                refine q_lconst rfl rfl ?_
                refine q_last rfl rfl (by decide) rfl (by decide) ?_
                refine q_icc2 (z := 58) rfl rfl rfl rfl rfl ?_
                refine q_goto rfl ?_
                refine q_iload_n rfl rfl rfl ?_
                refine q_bipush rfl rfl ?_
                refine q_icge rfl rfl (fun c1173 => absurd c1173 (by decide)) (fun c1173 => ?_)
                refine q_aload_n rfl rfl rfl ?_
                refine q_getf rfl rfl (by decide) (FW_46 S hW) rfl ?_
                refine q_bipush rfl rfl ?_
                refine q_iload_n rfl rfl rfl ?_
                refine q_imul rfl rfl (q_tn (z := 420) rfl ?_)
                refine q_iload_n rfl rfl rfl ?_
                refine q_iadd rfl rfl (q_tn (z := 478) rfl ?_)
                refine q_lconst rfl rfl ?_
                refine q_last rfl rfl (by decide) rfl (by decide) ?_
                refine q_icc2 (z := 59) rfl rfl rfl rfl rfl ?_
                refine q_goto rfl ?_
                refine q_iload_n rfl rfl rfl ?_
                refine q_bipush rfl rfl ?_
                refine q_icge rfl rfl (fun c1174 => absurd c1174 (by decide)) (fun c1174 => ?_)
                refine q_aload_n rfl rfl rfl ?_
                refine q_getf rfl rfl (by decide) (FW_46 S hW) rfl ?_
                refine q_bipush rfl rfl ?_
                refine q_iload_n rfl rfl rfl ?_
                refine q_imul rfl rfl (q_tn (z := 420) rfl ?_)
                refine q_iload_n rfl rfl rfl ?_
                refine q_iadd rfl rfl (q_tn (z := 479) rfl ?_)
                refine q_lconst rfl rfl ?_
                refine q_last rfl rfl (by decide) rfl (by decide) ?_
                refine q_icc2 (z := 60) rfl rfl rfl rfl rfl ?_
                refine q_goto rfl ?_
                refine q_iload_n rfl rfl rfl ?_
                refine q_bipush rfl rfl ?_
                refine q_icge rfl rfl (fun c1175 => ?_) (fun c1175 => absurd (by decide) c1175)
                refine q_ret rfl rfl ?_
                refine ⟨rfl, ?_⟩
                refine q_iconst rfl rfl ?_
                refine q_iret rfl rfl trivial ?_
                refine ⟨_, rfl, ?_⟩
                refine q_iceq rfl rfl (fun c1176 => ?_) (fun c1176 => absurd (by decide) c1176)
                refine q_icc4 (z := 6) rfl rfl rfl rfl rfl ?_
                refine q_goto rfl ?_
                refine q_iload rfl rfl rfl ?_
                refine q_aload_nF rfl rfl rfl ?_
                refine q_alenX (x := 6) rfl rfl rfl ?_
                refine q_bipush rfl rfl ?_
                refine q_isub rfl rfl (q_tn (z := 0) rfl ?_)
                refine q_icgt rfl rfl (fun c1177 => ?_) (fun c1177 => absurd (by decide) c1177)
                refine q_iconst rfl rfl ?_
                refine q_iret rfl rfl rfl ?_
                exact hK _ _
            · refine q_bipush rfl rfl ?_
              refine q_iret rfl rfl trivial ?_
              refine ⟨_, rfl, ?_⟩
              refine q_aload_n rfl rfl rfl ?_
              refine q_aload_nF rfl rfl rfl ?_
              refine q_iload rfl rfl rfl ?_
              refine q_iconst rfl rfl ?_
              refine q_iadd rfl rfl (q_tn (z := 1) rfl ?_)
              refine q_ialdX (x := x1) rfl rfl rfl hx1 ?_
              refine q_aload_nF rfl rfl rfl ?_
              refine q_iload rfl rfl rfl ?_
              refine q_iconst rfl rfl ?_
              refine q_iadd rfl rfl (q_tn (z := 2) rfl ?_)
              refine q_ialdX (x := 4) rfl rfl rfl hx2 ?_
              refine q_aload_nF rfl rfl rfl ?_
              refine q_iload rfl rfl rfl ?_
              refine q_iconst rfl rfl ?_
              refine q_iadd rfl rfl (q_tn (z := 3) rfl ?_)
              refine q_ialdX (x := x3) rfl rfl rfl hx3 ?_
              refine q_nV3 rfl rfl (Or.inl rfl) rfl rfl rfl (by decide) (FW_46 S hW) ⟨rfl, rfl⟩ rfl ?_
              change PQ _ _ _ mm_X12_make 0 [.ref 46, .int x1, .int 4, .int x3] [] _ _ 0 0 _
              refine q_aload_n rfl rfl rfl ?_
              refine q_iload_n rfl rfl rfl ?_
              refine q_nV1 rfl rfl (Or.inl rfl) rfl rfl rfl (by decide) (FW_46 S hW) ⟨rfl, rfl⟩ rfl ?_
              change PQ _ _ _ mm_X12_isShelf 0 [.ref 46, .int x1] [] _ _ 0 0 _
              refine q_aload_n rfl rfl rfl ?_
              refine q_iload_n rfl rfl rfl ?_
              refine q_iconst rfl rfl ?_
              refine q_bipush rfl rfl ?_
              refine q_nV3 rfl rfl (Or.inl rfl) rfl rfl rfl (by decide) (FW_46 S hW) ⟨rfl, rfl⟩ rfl ?_
              change PQ _ _ _ mm_X12_in 0 [.ref 46, .int x1, .int 0, .int 7] [] _ _ 0 0 _
              refine q_iload_n rfl rfl rfl ?_
              refine q_iload_n rfl rfl rfl ?_
              refine q_iclt rfl rfl (fun c1178 => absurd c1178 (i_lt_f (i_nlt c1) rfl)) (fun c1178 => ?_)
              refine q_iload_n rfl rfl rfl ?_
              refine q_iload_n rfl rfl rfl ?_
              refine q_icgt rfl rfl (fun c1179 => absurd c1179 (i_gt_f (i_ltle (i_nle c7) (B := 7) rfl) rfl)) (fun c1179 => ?_)
              refine q_iconst rfl rfl ?_
              refine q_goto rfl ?_
              refine q_iret rfl rfl rfl ?_
              refine ⟨_, rfl, ?_⟩
              refine q_iret rfl rfl rfl ?_
              refine ⟨_, rfl, ?_⟩
              refine q_ifeq rfl rfl (fun c1180 => absurd c1180 (by decide)) (fun c1180 => ?_)
              refine q_aload_n rfl rfl rfl ?_
              refine q_iload_n rfl rfl rfl ?_
              refine q_iconst rfl rfl ?_
              refine q_iconst rfl rfl ?_
              refine q_nV3 rfl rfl (Or.inl rfl) rfl rfl rfl (by decide) (FW_46 S hW) ⟨rfl, rfl⟩ rfl ?_
              change PQ _ _ _ mm_X12_in 0 [.ref 46, .int 4, .int 3, .int 4] [] _ _ 0 0 _
              refine q_iload_n rfl rfl rfl ?_
              refine q_iload_n rfl rfl rfl ?_
              refine q_iclt rfl rfl (fun c1181 => absurd c1181 (by decide)) (fun c1181 => ?_)
              refine q_iload_n rfl rfl rfl ?_
              refine q_iload_n rfl rfl rfl ?_
              refine q_icgt rfl rfl (fun c1182 => absurd c1182 (by decide)) (fun c1182 => ?_)
              refine q_iconst rfl rfl ?_
              refine q_goto rfl ?_
              refine q_iret rfl rfl rfl ?_
              refine ⟨_, rfl, ?_⟩
              refine q_ifeq rfl rfl (fun c1183 => absurd c1183 (by decide)) (fun c1183 => ?_)
              refine q_iload_n rfl rfl rfl ?_
              refine q_bipush rfl rfl ?_
              refine q_icle rfl rfl (fun c1184 => ?_) (fun c1184 => absurd (i_le_t (i_ltle (i_nle c608) (B := (-1)) rfl) rfl) c1184)
              refine q_iload_n rfl rfl rfl ?_
              refine q_ifge rfl rfl (fun c1185 => absurd c1185 (i_ge_f (i_ltle (i_nle c608) (B := (-1)) rfl) rfl)) (fun c1185 => ?_)
              refine q_bipush rfl rfl ?_
              refine q_iret rfl rfl trivial ?_
              refine ⟨_, rfl, ?_⟩
              refine q_iceq rfl rfl (fun c1186 => ?_) (fun c1186 => absurd (by decide) c1186)
              refine q_icc4 (z := 6) rfl rfl rfl rfl rfl ?_
              refine q_goto rfl ?_
              refine q_iload rfl rfl rfl ?_
              refine q_aload_nF rfl rfl rfl ?_
              refine q_alenX (x := 6) rfl rfl rfl ?_
              refine q_bipush rfl rfl ?_
              refine q_isub rfl rfl (q_tn (z := 0) rfl ?_)
              refine q_icgt rfl rfl (fun c1187 => ?_) (fun c1187 => absurd (by decide) c1187)
              refine q_iconst rfl rfl ?_
              refine q_iret rfl rfl rfl ?_
              exact hK _ _
          · refine q_iconst rfl rfl ?_
            refine q_iret rfl rfl trivial ?_
            refine ⟨_, rfl, ?_⟩
            refine q_aload_n rfl rfl rfl ?_
            refine q_aload_nF rfl rfl rfl ?_
            refine q_iload rfl rfl rfl ?_
            refine q_iconst rfl rfl ?_
            refine q_iadd rfl rfl (q_tn (z := 1) rfl ?_)
            refine q_ialdX (x := x1) rfl rfl rfl hx1 ?_
            refine q_aload_nF rfl rfl rfl ?_
            refine q_iload rfl rfl rfl ?_
            refine q_iconst rfl rfl ?_
            refine q_iadd rfl rfl (q_tn (z := 2) rfl ?_)
            refine q_ialdX (x := 4) rfl rfl rfl hx2 ?_
            refine q_aload_nF rfl rfl rfl ?_
            refine q_iload rfl rfl rfl ?_
            refine q_iconst rfl rfl ?_
            refine q_iadd rfl rfl (q_tn (z := 3) rfl ?_)
            refine q_ialdX (x := x3) rfl rfl rfl hx3 ?_
            refine q_nV3 rfl rfl (Or.inl rfl) rfl rfl rfl (by decide) (FW_46 S hW) ⟨rfl, rfl⟩ rfl ?_
            change PQ _ _ _ mm_X12_make 0 [.ref 46, .int x1, .int 4, .int x3] [] _ _ 0 0 _
            refine q_aload_n rfl rfl rfl ?_
            refine q_iload_n rfl rfl rfl ?_
            refine q_nV1 rfl rfl (Or.inl rfl) rfl rfl rfl (by decide) (FW_46 S hW) ⟨rfl, rfl⟩ rfl ?_
            change PQ _ _ _ mm_X12_isShelf 0 [.ref 46, .int x1] [] _ _ 0 0 _
            refine q_aload_n rfl rfl rfl ?_
            refine q_iload_n rfl rfl rfl ?_
            refine q_iconst rfl rfl ?_
            refine q_bipush rfl rfl ?_
            refine q_nV3 rfl rfl (Or.inl rfl) rfl rfl rfl (by decide) (FW_46 S hW) ⟨rfl, rfl⟩ rfl ?_
            change PQ _ _ _ mm_X12_in 0 [.ref 46, .int x1, .int 0, .int 7] [] _ _ 0 0 _
            refine q_iload_n rfl rfl rfl ?_
            refine q_iload_n rfl rfl rfl ?_
            refine q_iclt rfl rfl (fun c1188 => absurd c1188 (i_lt_f (i_nlt c1) rfl)) (fun c1188 => ?_)
            refine q_iload_n rfl rfl rfl ?_
            refine q_iload_n rfl rfl rfl ?_
            refine q_icgt rfl rfl (fun c1189 => absurd c1189 (i_gt_f (i_ltle (i_nle c7) (B := 7) rfl) rfl)) (fun c1189 => ?_)
            refine q_iconst rfl rfl ?_
            refine q_goto rfl ?_
            refine q_iret rfl rfl rfl ?_
            refine ⟨_, rfl, ?_⟩
            refine q_iret rfl rfl rfl ?_
            refine ⟨_, rfl, ?_⟩
            refine q_ifeq rfl rfl (fun c1190 => absurd c1190 (by decide)) (fun c1190 => ?_)
            refine q_aload_n rfl rfl rfl ?_
            refine q_iload_n rfl rfl rfl ?_
            refine q_iconst rfl rfl ?_
            refine q_iconst rfl rfl ?_
            refine q_nV3 rfl rfl (Or.inl rfl) rfl rfl rfl (by decide) (FW_46 S hW) ⟨rfl, rfl⟩ rfl ?_
            change PQ _ _ _ mm_X12_in 0 [.ref 46, .int 4, .int 3, .int 4] [] _ _ 0 0 _
            refine q_iload_n rfl rfl rfl ?_
            refine q_iload_n rfl rfl rfl ?_
            refine q_iclt rfl rfl (fun c1191 => absurd c1191 (by decide)) (fun c1191 => ?_)
            refine q_iload_n rfl rfl rfl ?_
            refine q_iload_n rfl rfl rfl ?_
            refine q_icgt rfl rfl (fun c1192 => absurd c1192 (by decide)) (fun c1192 => ?_)
            refine q_iconst rfl rfl ?_
            refine q_goto rfl ?_
            refine q_iret rfl rfl rfl ?_
            refine ⟨_, rfl, ?_⟩
            refine q_ifeq rfl rfl (fun c1193 => absurd c1193 (by decide)) (fun c1193 => ?_)
            refine q_iload_n rfl rfl rfl ?_
            refine q_bipush rfl rfl ?_
            refine q_icle rfl rfl (fun c1194 => absurd c1194 (i_le_f (i_ltge (i_nle c607) (B := 61) rfl) rfl)) (fun c1194 => ?_)
            refine q_iconst rfl rfl ?_
            refine q_iret rfl rfl trivial ?_
            refine ⟨_, rfl, ?_⟩
            refine q_iceq rfl rfl (fun c1195 => ?_) (fun c1195 => absurd (by decide) c1195)
            refine q_icc4 (z := 6) rfl rfl rfl rfl rfl ?_
            refine q_goto rfl ?_
            refine q_iload rfl rfl rfl ?_
            refine q_aload_nF rfl rfl rfl ?_
            refine q_alenX (x := 6) rfl rfl rfl ?_
            refine q_bipush rfl rfl ?_
            refine q_isub rfl rfl (q_tn (z := 0) rfl ?_)
            refine q_icgt rfl rfl (fun c1196 => ?_) (fun c1196 => absurd (by decide) c1196)
            refine q_iconst rfl rfl ?_
            refine q_iret rfl rfl rfl ?_
            exact hK _ _
        · refine q_iconst rfl rfl ?_
          refine q_iret rfl rfl trivial ?_
          refine ⟨_, rfl, ?_⟩
          refine q_aload_n rfl rfl rfl ?_
          refine q_aload_nF rfl rfl rfl ?_
          refine q_iload rfl rfl rfl ?_
          refine q_iconst rfl rfl ?_
          refine q_iadd rfl rfl (q_tn (z := 1) rfl ?_)
          refine q_ialdX (x := x1) rfl rfl rfl hx1 ?_
          refine q_aload_nF rfl rfl rfl ?_
          refine q_iload rfl rfl rfl ?_
          refine q_iconst rfl rfl ?_
          refine q_iadd rfl rfl (q_tn (z := 2) rfl ?_)
          refine q_ialdX (x := x2) rfl rfl rfl hx2 ?_
          refine q_aload_nF rfl rfl rfl ?_
          refine q_iload rfl rfl rfl ?_
          refine q_iconst rfl rfl ?_
          refine q_iadd rfl rfl (q_tn (z := 3) rfl ?_)
          refine q_ialdX (x := x3) rfl rfl rfl hx3 ?_
          refine q_nV3 rfl rfl (Or.inl rfl) rfl rfl rfl (by decide) (FW_46 S hW) ⟨rfl, rfl⟩ rfl ?_
          change PQ _ _ _ mm_X12_make 0 [.ref 46, .int x1, .int x2, .int x3] [] _ _ 0 0 _
          refine q_aload_n rfl rfl rfl ?_
          refine q_iload_n rfl rfl rfl ?_
          refine q_nV1 rfl rfl (Or.inl rfl) rfl rfl rfl (by decide) (FW_46 S hW) ⟨rfl, rfl⟩ rfl ?_
          change PQ _ _ _ mm_X12_isShelf 0 [.ref 46, .int x1] [] _ _ 0 0 _
          refine q_aload_n rfl rfl rfl ?_
          refine q_iload_n rfl rfl rfl ?_
          refine q_iconst rfl rfl ?_
          refine q_bipush rfl rfl ?_
          refine q_nV3 rfl rfl (Or.inl rfl) rfl rfl rfl (by decide) (FW_46 S hW) ⟨rfl, rfl⟩ rfl ?_
          change PQ _ _ _ mm_X12_in 0 [.ref 46, .int x1, .int 0, .int 7] [] _ _ 0 0 _
          refine q_iload_n rfl rfl rfl ?_
          refine q_iload_n rfl rfl rfl ?_
          refine q_iclt rfl rfl (fun c1197 => absurd c1197 (i_lt_f (i_nlt c1) rfl)) (fun c1197 => ?_)
          refine q_iload_n rfl rfl rfl ?_
          refine q_iload_n rfl rfl rfl ?_
          refine q_icgt rfl rfl (fun c1198 => absurd c1198 (i_gt_f (i_ltle (i_nle c7) (B := 7) rfl) rfl)) (fun c1198 => ?_)
          refine q_iconst rfl rfl ?_
          refine q_goto rfl ?_
          refine q_iret rfl rfl rfl ?_
          refine ⟨_, rfl, ?_⟩
          refine q_iret rfl rfl rfl ?_
          refine ⟨_, rfl, ?_⟩
          refine q_ifeq rfl rfl (fun c1199 => absurd c1199 (by decide)) (fun c1199 => ?_)
          refine q_aload_n rfl rfl rfl ?_
          refine q_iload_n rfl rfl rfl ?_
          refine q_iconst rfl rfl ?_
          refine q_iconst rfl rfl ?_
          refine q_nV3 rfl rfl (Or.inl rfl) rfl rfl rfl (by decide) (FW_46 S hW) ⟨rfl, rfl⟩ rfl ?_
          change PQ _ _ _ mm_X12_in 0 [.ref 46, .int x2, .int 3, .int 4] [] _ _ 0 0 _
          refine q_iload_n rfl rfl rfl ?_
          refine q_iload_n rfl rfl rfl ?_
          refine q_iclt rfl rfl (fun c1200 => ?_) (fun c1200 => ?_)
          · refine q_iconst rfl rfl ?_
            refine q_iret rfl rfl rfl ?_
            refine ⟨_, rfl, ?_⟩
            refine q_ifeq rfl rfl (fun c1201 => ?_) (fun c1201 => absurd (by decide) c1201)
            refine q_iconst rfl rfl ?_
            refine q_iret rfl rfl trivial ?_
            refine ⟨_, rfl, ?_⟩
            refine q_iceq rfl rfl (fun c1202 => ?_) (fun c1202 => absurd (by decide) c1202)
            refine q_icc4 (z := 6) rfl rfl rfl rfl rfl ?_
            refine q_goto rfl ?_
            refine q_iload rfl rfl rfl ?_
            refine q_aload_nF rfl rfl rfl ?_
            refine q_alenX (x := 6) rfl rfl rfl ?_
            refine q_bipush rfl rfl ?_
            refine q_isub rfl rfl (q_tn (z := 0) rfl ?_)
            refine q_icgt rfl rfl (fun c1203 => ?_) (fun c1203 => absurd (by decide) c1203)
            refine q_iconst rfl rfl ?_
            refine q_iret rfl rfl rfl ?_
            exact hK _ _
          · refine q_iload_n rfl rfl rfl ?_
            refine q_iload_n rfl rfl rfl ?_
            refine q_icgt rfl rfl (fun c1204 => ?_) (fun c1204 => absurd (i_gt_t (i_ltge (i_nle (fun q => c606 (Int32.le_antisymm q (i_ltge (i_nle (fun q => c15 (Int32.le_antisymm q (i_nlt c1200)))) (B := 4) rfl)))) (B := 5) rfl) rfl) c1204)
            refine q_iconst rfl rfl ?_
            refine q_iret rfl rfl rfl ?_
            refine ⟨_, rfl, ?_⟩
            refine q_ifeq rfl rfl (fun c1205 => ?_) (fun c1205 => absurd (by decide) c1205)
            refine q_iconst rfl rfl ?_
            refine q_iret rfl rfl trivial ?_
            refine ⟨_, rfl, ?_⟩
            refine q_iceq rfl rfl (fun c1206 => ?_) (fun c1206 => absurd (by decide) c1206)
            refine q_icc4 (z := 6) rfl rfl rfl rfl rfl ?_
            refine q_goto rfl ?_
            refine q_iload rfl rfl rfl ?_
            refine q_aload_nF rfl rfl rfl ?_
            refine q_alenX (x := 6) rfl rfl rfl ?_
            refine q_bipush rfl rfl ?_
            refine q_isub rfl rfl (q_tn (z := 0) rfl ?_)
            refine q_icgt rfl rfl (fun c1207 => ?_) (fun c1207 => absurd (by decide) c1207)
            refine q_iconst rfl rfl ?_
            refine q_iret rfl rfl rfl ?_
            exact hK _ _
end TR
