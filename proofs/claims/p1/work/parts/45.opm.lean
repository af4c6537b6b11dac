section TR
variable {EX : pm_M → pm_C → (pm_C → Prop) → Prop} {xs : Nat → Int32} {K : q_K}
set_option maxHeartbeats 40000000 in
set_option maxRecDepth 20000 in
theorem t_op24 {S : Nat → pm_E} (hW : FW S) {x1 x2 x3 x4 x5 : Int32} (hx1 : xs 1 = x1) (hx2 : xs 2 = x2) (hx3 : xs 3 = x3) (hx4 : xs 4 = x4) (hx5 : xs 5 = x5) (hK : ∀ S n, K (some (.int 1)) S n) : PQ (j_SL 6) (j_SV xs) j_EX mm_L_law 1028 [.float 5, .ref 0, .ref 46, .ref 81, .int 0, pm_un, pm_un, pm_un] [] S 82 82 190091 K := by
  refine q_aload_n rfl rfl rfl ?_
  refine q_aload_nF rfl rfl rfl ?_
  refine q_iload rfl rfl rfl ?_
  refine q_iconst rfl rfl ?_
  refine q_iadd rfl rfl (q_tn (z := 1) rfl ?_)
  refine q_ialdX (x := x1) rfl rfl rfl hx1 ?_
  refine q_aload_nF rfl rfl rfl ?_
  refine q_iload rfl rfl rfl ?_
  refine q_iconst rfl rfl ?_
  refine q_iadd rfl rfl (q_tn (z := 2) rfl ?_)
  refine q_ialdX (x := x2) rfl rfl rfl hx2 ?_
  refine q_aload_nF rfl rfl rfl ?_
  refine q_iload rfl rfl rfl ?_
  refine q_iconst rfl rfl ?_
  refine q_iadd rfl rfl (q_tn (z := 3) rfl ?_)
  refine q_ialdX (x := x3) rfl rfl rfl hx3 ?_
  refine q_nV3A rfl rfl (Or.inl rfl) rfl rfl rfl (by decide) (FW_0 S hW) ⟨rfl, rfl⟩ rfl rfl rfl ?_
  change PQ _ _ _ mm_X11_make 0 [.ref 0, .int x1, .int x2, .int x3] [] _ _ 0 0 _
  refine q_iload_n rfl rfl rfl ?_
  refine q_bipush rfl rfl ?_
  refine q_nS2 rfl rfl (Or.inl rfl) rfl rfl ⟨rfl, rfl⟩ rfl ?_
  change PQ _ _ _ mm_X11_within 0 [.int x1, .int 8] [] _ _ 0 0 _
  refine q_iload_n rfl rfl rfl ?_
  refine q_iflt rfl rfl (fun c1 => ?_) (fun c1 => ?_)
  · refine q_iconst rfl rfl ?_
    refine q_iret rfl rfl rfl ?_
    refine ⟨_, rfl, ?_⟩
    refine q_ifeq rfl rfl (fun c2 => ?_) (fun c2 => absurd (by decide) c2)
    refine q_iconst rfl rfl ?_
    refine q_iret rfl rfl trivial ?_
    refine ⟨_, rfl, ?_⟩
    refine q_aload_n rfl rfl rfl ?_
    refine q_aload_nF rfl rfl rfl ?_
    refine q_iload rfl rfl rfl ?_
    refine q_iconst rfl rfl ?_
    refine q_iadd rfl rfl (q_tn (z := 1) rfl ?_)
    refine q_ialdX (x := x1) rfl rfl rfl hx1 ?_
    refine q_aload_nF rfl rfl rfl ?_
    refine q_iload rfl rfl rfl ?_
    refine q_iconst rfl rfl ?_
    refine q_iadd rfl rfl (q_tn (z := 2) rfl ?_)
    refine q_ialdX (x := x2) rfl rfl rfl hx2 ?_
    refine q_aload_nF rfl rfl rfl ?_
    refine q_iload rfl rfl rfl ?_
    refine q_iconst rfl rfl ?_
    refine q_iadd rfl rfl (q_tn (z := 3) rfl ?_)
    refine q_ialdX (x := x3) rfl rfl rfl hx3 ?_
    refine q_nV3 rfl rfl (Or.inl rfl) rfl rfl rfl (by decide) (FW_46 S hW) ⟨rfl, rfl⟩ rfl ?_
    change PQ _ _ _ mm_X12_make 0 [.ref 46, .int x1, .int x2, .int x3] [] _ _ 0 0 _
    refine q_aload_n rfl rfl rfl ?_
    refine q_iload_n rfl rfl rfl ?_
    refine q_nV1 rfl rfl (Or.inl rfl) rfl rfl rfl (by decide) (FW_46 S hW) ⟨rfl, rfl⟩ rfl ?_
    change PQ _ _ _ mm_X12_isShelf 0 [.ref 46, .int x1] [] _ _ 0 0 _
    refine q_aload_n rfl rfl rfl ?_
    refine q_iload_n rfl rfl rfl ?_
    refine q_iconst rfl rfl ?_
    refine q_bipush rfl rfl ?_
    refine q_nV3 rfl rfl (Or.inl rfl) rfl rfl rfl (by decide) (FW_46 S hW) ⟨rfl, rfl⟩ rfl ?_
    change PQ _ _ _ mm_X12_in 0 [.ref 46, .int x1, .int 0, .int 7] [] _ _ 0 0 _
    refine q_iload_n rfl rfl rfl ?_
    refine q_iload_n rfl rfl rfl ?_
    refine q_iclt rfl rfl (fun c3 => ?_) (fun c3 => absurd (i_lt_t (i_ltle c1 (B := (-1)) rfl) rfl) c3)
    refine q_iconst rfl rfl ?_
    refine q_iret rfl rfl rfl ?_
    refine ⟨_, rfl, ?_⟩
    refine q_iret rfl rfl rfl ?_
    refine ⟨_, rfl, ?_⟩
    refine q_ifeq rfl rfl (fun c4 => ?_) (fun c4 => absurd (by decide) c4)
    refine q_iconst rfl rfl ?_
    refine q_iret rfl rfl trivial ?_
    refine ⟨_, rfl, ?_⟩
    refine q_iceq rfl rfl (fun c5 => ?_) (fun c5 => absurd (by decide) c5)
    refine q_icc4 (z := 6) rfl rfl rfl rfl rfl ?_
    refine q_goto rfl ?_
    refine q_iload rfl rfl rfl ?_
    refine q_aload_nF rfl rfl rfl ?_
    refine q_alenX (x := 6) rfl rfl rfl ?_
    refine q_bipush rfl rfl ?_
    refine q_isub rfl rfl (q_tn (z := 0) rfl ?_)
    refine q_icgt rfl rfl (fun c6 => ?_) (fun c6 => absurd (by decide) c6)
    refine q_iconst rfl rfl ?_
    refine q_iret rfl rfl rfl ?_
    exact hK _ _
  · refine q_iload_n rfl rfl rfl ?_
    refine q_iload_n rfl rfl rfl ?_
    refine q_icge rfl rfl (fun c7 => ?_) (fun c7 => ?_)
    · refine q_iconst rfl rfl ?_
      refine q_iret rfl rfl rfl ?_
      refine ⟨_, rfl, ?_⟩
      refine q_ifeq rfl rfl (fun c8 => ?_) (fun c8 => absurd (by decide) c8)
      refine q_iconst rfl rfl ?_
      refine q_iret rfl rfl trivial ?_
      refine ⟨_, rfl, ?_⟩
      refine q_aload_n rfl rfl rfl ?_
      refine q_aload_nF rfl rfl rfl ?_
      refine q_iload rfl rfl rfl ?_
      refine q_iconst rfl rfl ?_
      refine q_iadd rfl rfl (q_tn (z := 1) rfl ?_)
      refine q_ialdX (x := x1) rfl rfl rfl hx1 ?_
      refine q_aload_nF rfl rfl rfl ?_
      refine q_iload rfl rfl rfl ?_
      refine q_iconst rfl rfl ?_
      refine q_iadd rfl rfl (q_tn (z := 2) rfl ?_)
      refine q_ialdX (x := x2) rfl rfl rfl hx2 ?_
      refine q_aload_nF rfl rfl rfl ?_
      refine q_iload rfl rfl rfl ?_
      refine q_iconst rfl rfl ?_
      refine q_iadd rfl rfl (q_tn (z := 3) rfl ?_)
      refine q_ialdX (x := x3) rfl rfl rfl hx3 ?_
      refine q_nV3 rfl rfl (Or.inl rfl) rfl rfl rfl (by decide) (FW_46 S hW) ⟨rfl, rfl⟩ rfl ?_
      change PQ _ _ _ mm_X12_make 0 [.ref 46, .int x1, .int x2, .int x3] [] _ _ 0 0 _
      refine q_aload_n rfl rfl rfl ?_
      refine q_iload_n rfl rfl rfl ?_
      refine q_nV1 rfl rfl (Or.inl rfl) rfl rfl rfl (by decide) (FW_46 S hW) ⟨rfl, rfl⟩ rfl ?_
      change PQ _ _ _ mm_X12_isShelf 0 [.ref 46, .int x1] [] _ _ 0 0 _
      refine q_aload_n rfl rfl rfl ?_
      refine q_iload_n rfl rfl rfl ?_
      refine q_iconst rfl rfl ?_
      refine q_bipush rfl rfl ?_
      refine q_nV3 rfl rfl (Or.inl rfl) rfl rfl rfl (by decide) (FW_46 S hW) ⟨rfl, rfl⟩ rfl ?_
      change PQ _ _ _ mm_X12_in 0 [.ref 46, .int x1, .int 0, .int 7] [] _ _ 0 0 _
      refine q_iload_n rfl rfl rfl ?_
      refine q_iload_n rfl rfl rfl ?_
      refine q_iclt rfl rfl (fun c9 => absurd c9 (i_lt_f c7 rfl)) (fun c9 => ?_)
      refine q_iload_n rfl rfl rfl ?_
      refine q_iload_n rfl rfl rfl ?_
      refine q_icgt rfl rfl (fun c10 => ?_) (fun c10 => absurd (i_gt_t c7 rfl) c10)
      refine q_iconst rfl rfl ?_
      refine q_iret rfl rfl rfl ?_
      refine ⟨_, rfl, ?_⟩
      refine q_iret rfl rfl rfl ?_
      refine ⟨_, rfl, ?_⟩
      refine q_ifeq rfl rfl (fun c11 => ?_) (fun c11 => absurd (by decide) c11)
      refine q_iconst rfl rfl ?_
      refine q_iret rfl rfl trivial ?_
      refine ⟨_, rfl, ?_⟩
      refine q_iceq rfl rfl (fun c12 => ?_) (fun c12 => absurd (by decide) c12)
      refine q_icc4 (z := 6) rfl rfl rfl rfl rfl ?_
      refine q_goto rfl ?_
      refine q_iload rfl rfl rfl ?_
      refine q_aload_nF rfl rfl rfl ?_
      refine q_alenX (x := 6) rfl rfl rfl ?_
      refine q_bipush rfl rfl ?_
      refine q_isub rfl rfl (q_tn (z := 0) rfl ?_)
      refine q_icgt rfl rfl (fun c13 => ?_) (fun c13 => absurd (by decide) c13)
      refine q_iconst rfl rfl ?_
      refine q_iret rfl rfl rfl ?_
      exact hK _ _
    · refine q_iconst rfl rfl ?_
      refine q_goto rfl ?_
      refine q_iret rfl rfl rfl ?_
      refine ⟨_, rfl, ?_⟩
      refine q_ifeq rfl rfl (fun c14 => absurd c14 (by decide)) (fun c14 => ?_)
      refine q_iload_n rfl rfl rfl ?_
      refine q_iconst rfl rfl ?_
      refine q_iceq rfl rfl (fun c15 => ?_) (fun c15 => ?_)
      · subst c15
        refine q_iload_n rfl rfl rfl ?_
        refine q_bipush rfl rfl ?_
        refine q_icle rfl rfl (fun c16 => ?_) (fun c16 => ?_)
        · refine q_iload_n rfl rfl rfl ?_
          refine q_ifge rfl rfl (fun c17 => ?_) (fun c17 => ?_)
          · refine q_aload_n rfl rfl rfl ?_
            refine q_getf rfl rfl (by decide) (FW_0 S hW) rfl ?_
            refine q_iload_n rfl rfl rfl ?_
            refine q_iload_n rfl rfl rfl ?_
            refine q_iconst rfl rfl ?_
            refine q_icne rfl rfl (fun c18 => ?_) (fun c18 => absurd (by decide) c18)
            refine q_new rfl rfl rfl rfl ?_
            refine q_dupr rfl rfl ?_
            refine q_iload_n rfl rfl rfl ?_
            refine q_nI1vA rfl rfl (Or.inl rfl) rfl rfl ⟨rfl, rfl⟩ rfl rfl rfl ?_
            change PQ _ _ _ mm_X4_init 0 [.ref 82, .int x3] [] _ _ 0 0 _
            refine q_aload_n rfl rfl rfl ?_
            refine q_nI0v rfl rfl (Or.inr rfl) rfl rfl ⟨rfl, rfl⟩ rfl ?_
            change PQ _ _ _ mm_X2_init 0 [.ref 82] [] _ _ 0 0 _
            refine q_aload_n rfl rfl rfl ?_
            refine q_objI rfl rfl rfl ?_
            refine q_ret rfl rfl ?_
            refine ⟨rfl, ?_⟩
            refine q_aload_n rfl rfl rfl ?_
            refine q_iload_n rfl rfl rfl ?_
            refine q_iconst rfl rfl ?_
            refine q_mmax (z := x3) rfl om_lr rfl rfl (if_neg (i_lt_f c17 rfl)) ?_
            refine q_newa rfl rfl (i_lt_f c17 rfl) rfl (i_b8 c17 c16 rfl) rfl (i_bs c17 c16 rfl) ?_
            refine q_putf rfl rfl (by decide) rfl (by decide) rfl trivial ?_
            refine q_ret rfl rfl ?_
            refine ⟨rfl, ?_⟩
            refine q_goto rfl ?_
            rcases i_en7 (i_nlt c1) (i_ltle (i_nle c7) (B := 7) rfl) with rfl | rfl | rfl | rfl | rfl | rfl | rfl | rfl
            · refine q_aast rfl rfl (by decide) (by decide) (FW_43 S hW) rfl rfl (by decide) ?_
              refine q_iconst rfl rfl ?_
              refine q_iret rfl rfl trivial ?_
              refine ⟨_, rfl, ?_⟩
              refine q_aload_n rfl rfl rfl ?_
              refine q_aload_nF rfl rfl rfl ?_
              refine q_iload rfl rfl rfl ?_
              refine q_iconst rfl rfl ?_
              refine q_iadd rfl rfl (q_tn (z := 1) rfl ?_)
              refine q_ialdX (x := 0) rfl rfl rfl hx1 ?_
              refine q_aload_nF rfl rfl rfl ?_
              refine q_iload rfl rfl rfl ?_
              refine q_iconst rfl rfl ?_
              refine q_iadd rfl rfl (q_tn (z := 2) rfl ?_)
              refine q_ialdX (x := 3) rfl rfl rfl hx2 ?_
              refine q_aload_nF rfl rfl rfl ?_
              refine q_iload rfl rfl rfl ?_
              refine q_iconst rfl rfl ?_
              refine q_iadd rfl rfl (q_tn (z := 3) rfl ?_)
              refine q_ialdX (x := x3) rfl rfl rfl hx3 ?_
              refine q_nV3 rfl rfl (Or.inl rfl) rfl rfl rfl (by decide) (FW_46 S hW) ⟨rfl, rfl⟩ rfl ?_
              change PQ _ _ _ mm_X12_make 0 [.ref 46, .int 0, .int 3, .int x3] [] _ _ 0 0 _
              refine q_aload_n rfl rfl rfl ?_
              refine q_iload_n rfl rfl rfl ?_
              refine q_nV1 rfl rfl (Or.inl rfl) rfl rfl rfl (by decide) (FW_46 S hW) ⟨rfl, rfl⟩ rfl ?_
              change PQ _ _ _ mm_X12_isShelf 0 [.ref 46, .int 0] [] _ _ 0 0 _
              refine q_aload_n rfl rfl rfl ?_
              refine q_iload_n rfl rfl rfl ?_
              refine q_iconst rfl rfl ?_
              refine q_bipush rfl rfl ?_
              refine q_nV3 rfl rfl (Or.inl rfl) rfl rfl rfl (by decide) (FW_46 S hW) ⟨rfl, rfl⟩ rfl ?_
              change PQ _ _ _ mm_X12_in 0 [.ref 46, .int 0, .int 0, .int 7] [] _ _ 0 0 _
              refine q_iload_n rfl rfl rfl ?_
              refine q_iload_n rfl rfl rfl ?_
              refine q_iclt rfl rfl (fun c19 => absurd c19 (by decide)) (fun c19 => ?_)
              refine q_iload_n rfl rfl rfl ?_
              refine q_iload_n rfl rfl rfl ?_
              refine q_icgt rfl rfl (fun c20 => absurd c20 (by decide)) (fun c20 => ?_)
              refine q_iconst rfl rfl ?_
              refine q_goto rfl ?_
              refine q_iret rfl rfl rfl ?_
              refine ⟨_, rfl, ?_⟩
              refine q_iret rfl rfl rfl ?_
              refine ⟨_, rfl, ?_⟩
              refine q_ifeq rfl rfl (fun c21 => absurd c21 (by decide)) (fun c21 => ?_)
              refine q_aload_n rfl rfl rfl ?_
              refine q_iload_n rfl rfl rfl ?_
              refine q_iconst rfl rfl ?_
              refine q_iconst rfl rfl ?_
              refine q_nV3 rfl rfl (Or.inl rfl) rfl rfl rfl (by decide) (FW_46 S hW) ⟨rfl, rfl⟩ rfl ?_
              change PQ _ _ _ mm_X12_in 0 [.ref 46, .int 3, .int 3, .int 4] [] _ _ 0 0 _
              refine q_iload_n rfl rfl rfl ?_
              refine q_iload_n rfl rfl rfl ?_
              refine q_iclt rfl rfl (fun c22 => absurd c22 (by decide)) (fun c22 => ?_)
              refine q_iload_n rfl rfl rfl ?_
              refine q_iload_n rfl rfl rfl ?_
              refine q_icgt rfl rfl (fun c23 => absurd c23 (by decide)) (fun c23 => ?_)
              refine q_iconst rfl rfl ?_
              refine q_goto rfl ?_
              refine q_iret rfl rfl rfl ?_
              refine ⟨_, rfl, ?_⟩
              refine q_ifeq rfl rfl (fun c24 => absurd c24 (by decide)) (fun c24 => ?_)
              refine q_iload_n rfl rfl rfl ?_
              refine q_bipush rfl rfl ?_
              refine q_icle rfl rfl (fun c25 => ?_) (fun c25 => absurd (i_le_t c16 rfl) c25)
              refine q_iload_n rfl rfl rfl ?_
              refine q_ifge rfl rfl (fun c26 => ?_) (fun c26 => absurd (i_ge_t c17 rfl) c26)
              refine q_aload_n rfl rfl rfl ?_
              refine q_getf rfl rfl (by decide) (FW_46 S hW) rfl ?_
              refine q_iload_n rfl rfl rfl ?_
              refine q_iload_n rfl rfl rfl ?_
              refine q_iast rfl rfl (by decide) (FW_75 S hW) (by decide) ?_
              refine q_aload_n rfl rfl rfl ?_
              refine q_getf rfl rfl (by decide) (FW_46 S hW) rfl ?_
              refine q_iload_n rfl rfl rfl ?_
              refine q_iload_n rfl rfl rfl ?_
              refine q_iast rfl rfl (by decide) (FW_78 S hW) (by decide) ?_
              refine q_aload_n rfl rfl rfl ?_
              refine q_iload_n rfl rfl rfl ?_
              refine q_cV1v rfl rfl (Or.inl rfl) rfl rfl rfl (by decide) (FW_46 S hW) ⟨rfl, rfl⟩ rfl (fun K' hK' => l_clear (D := 0) (by decide) rfl (by decide) (FW_46 S hW) rfl (FW_79 S hW) hK') ?_
              refine q_iconst rfl rfl ?_
              refine q_iret rfl rfl trivial ?_
              refine ⟨_, rfl, ?_⟩
              refine q_iceq rfl rfl (fun c27 => ?_) (fun c27 => absurd (by decide) c27)
              refine q_icc4 (z := 6) rfl rfl rfl rfl rfl ?_
              refine q_goto rfl ?_
              refine q_iload rfl rfl rfl ?_
              refine q_aload_nF rfl rfl rfl ?_
              refine q_alenX (x := 6) rfl rfl rfl ?_
              refine q_bipush rfl rfl ?_
              refine q_isub rfl rfl (q_tn (z := 0) rfl ?_)
              refine q_icgt rfl rfl (fun c28 => ?_) (fun c28 => absurd (by decide) c28)
              refine q_iconst rfl rfl ?_
              refine q_iret rfl rfl rfl ?_
              exact hK _ _
            · refine q_aast rfl rfl (by decide) (by decide) (FW_43 S hW) rfl rfl (by decide) ?_
              refine q_iconst rfl rfl ?_
              refine q_iret rfl rfl trivial ?_
              refine ⟨_, rfl, ?_⟩
              refine q_aload_n rfl rfl rfl ?_
              refine q_aload_nF rfl rfl rfl ?_
              refine q_iload rfl rfl rfl ?_
              refine q_iconst rfl rfl ?_
              refine q_iadd rfl rfl (q_tn (z := 1) rfl ?_)
              refine q_ialdX (x := 1) rfl rfl rfl hx1 ?_
              refine q_aload_nF rfl rfl rfl ?_
              refine q_iload rfl rfl rfl ?_
              refine q_iconst rfl rfl ?_
              refine q_iadd rfl rfl (q_tn (z := 2) rfl ?_)
              refine q_ialdX (x := 3) rfl rfl rfl hx2 ?_
              refine q_aload_nF rfl rfl rfl ?_
              refine q_iload rfl rfl rfl ?_
              refine q_iconst rfl rfl ?_
              refine q_iadd rfl rfl (q_tn (z := 3) rfl ?_)
              refine q_ialdX (x := x3) rfl rfl rfl hx3 ?_
              refine q_nV3 rfl rfl (Or.inl rfl) rfl rfl rfl (by decide) (FW_46 S hW) ⟨rfl, rfl⟩ rfl ?_
              change PQ _ _ _ mm_X12_make 0 [.ref 46, .int 1, .int 3, .int x3] [] _ _ 0 0 _
              refine q_aload_n rfl rfl rfl ?_
              refine q_iload_n rfl rfl rfl ?_
              refine q_nV1 rfl rfl (Or.inl rfl) rfl rfl rfl (by decide) (FW_46 S hW) ⟨rfl, rfl⟩ rfl ?_
              change PQ _ _ _ mm_X12_isShelf 0 [.ref 46, .int 1] [] _ _ 0 0 _
              refine q_aload_n rfl rfl rfl ?_
              refine q_iload_n rfl rfl rfl ?_
              refine q_iconst rfl rfl ?_
              refine q_bipush rfl rfl ?_
              refine q_nV3 rfl rfl (Or.inl rfl) rfl rfl rfl (by decide) (FW_46 S hW) ⟨rfl, rfl⟩ rfl ?_
              change PQ _ _ _ mm_X12_in 0 [.ref 46, .int 1, .int 0, .int 7] [] _ _ 0 0 _
              refine q_iload_n rfl rfl rfl ?_
              refine q_iload_n rfl rfl rfl ?_
              refine q_iclt rfl rfl (fun c29 => absurd c29 (by decide)) (fun c29 => ?_)
              refine q_iload_n rfl rfl rfl ?_
              refine q_iload_n rfl rfl rfl ?_
              refine q_icgt rfl rfl (fun c30 => absurd c30 (by decide)) (fun c30 => ?_)
              refine q_iconst rfl rfl ?_
              refine q_goto rfl ?_
              refine q_iret rfl rfl rfl ?_
              refine ⟨_, rfl, ?_⟩
              refine q_iret rfl rfl rfl ?_
              refine ⟨_, rfl, ?_⟩
              refine q_ifeq rfl rfl (fun c31 => absurd c31 (by decide)) (fun c31 => ?_)
              refine q_aload_n rfl rfl rfl ?_
              refine q_iload_n rfl rfl rfl ?_
              refine q_iconst rfl rfl ?_
              refine q_iconst rfl rfl ?_
              refine q_nV3 rfl rfl (Or.inl rfl) rfl rfl rfl (by decide) (FW_46 S hW) ⟨rfl, rfl⟩ rfl ?_
              change PQ _ _ _ mm_X12_in 0 [.ref 46, .int 3, .int 3, .int 4] [] _ _ 0 0 _
              refine q_iload_n rfl rfl rfl ?_
              refine q_iload_n rfl rfl rfl ?_
              refine q_iclt rfl rfl (fun c32 => absurd c32 (by decide)) (fun c32 => ?_)
              refine q_iload_n rfl rfl rfl ?_
              refine q_iload_n rfl rfl rfl ?_
              refine q_icgt rfl rfl (fun c33 => absurd c33 (by decide)) (fun c33 => ?_)
              refine q_iconst rfl rfl ?_
              refine q_goto rfl ?_
              refine q_iret rfl rfl rfl ?_
              refine ⟨_, rfl, ?_⟩
              refine q_ifeq rfl rfl (fun c34 => absurd c34 (by decide)) (fun c34 => ?_)
              refine q_iload_n rfl rfl rfl ?_
              refine q_bipush rfl rfl ?_
              refine q_icle rfl rfl (fun c35 => ?_) (fun c35 => absurd (i_le_t c16 rfl) c35)
              refine q_iload_n rfl rfl rfl ?_
              refine q_ifge rfl rfl (fun c36 => ?_) (fun c36 => absurd (i_ge_t c17 rfl) c36)
              refine q_aload_n rfl rfl rfl ?_
              refine q_getf rfl rfl (by decide) (FW_46 S hW) rfl ?_
              refine q_iload_n rfl rfl rfl ?_
              refine q_iload_n rfl rfl rfl ?_
              refine q_iast rfl rfl (by decide) (FW_75 S hW) (by decide) ?_
              refine q_aload_n rfl rfl rfl ?_
              refine q_getf rfl rfl (by decide) (FW_46 S hW) rfl ?_
              refine q_iload_n rfl rfl rfl ?_
              refine q_iload_n rfl rfl rfl ?_
              refine q_iast rfl rfl (by decide) (FW_78 S hW) (by decide) ?_
              refine q_aload_n rfl rfl rfl ?_
              refine q_iload_n rfl rfl rfl ?_
              refine q_cV1v rfl rfl (Or.inl rfl) rfl rfl rfl (by decide) (FW_46 S hW) ⟨rfl, rfl⟩ rfl (fun K' hK' => l_clear (D := 1) (by decide) rfl (by decide) (FW_46 S hW) rfl (FW_79 S hW) hK') ?_
              refine q_iconst rfl rfl ?_
              refine q_iret rfl rfl trivial ?_
              refine ⟨_, rfl, ?_⟩
              refine q_iceq rfl rfl (fun c37 => ?_) (fun c37 => absurd (by decide) c37)
              refine q_icc4 (z := 6) rfl rfl rfl rfl rfl ?_
              refine q_goto rfl ?_
              refine q_iload rfl rfl rfl ?_
              refine q_aload_nF rfl rfl rfl ?_
              refine q_alenX (x := 6) rfl rfl rfl ?_
              refine q_bipush rfl rfl ?_
              refine q_isub rfl rfl (q_tn (z := 0) rfl ?_)
              refine q_icgt rfl rfl (fun c38 => ?_) (fun c38 => absurd (by decide) c38)
              refine q_iconst rfl rfl ?_
              refine q_iret rfl rfl rfl ?_
              exact hK _ _
            · refine q_aast rfl rfl (by decide) (by decide) (FW_43 S hW) rfl rfl (by decide) ?_
              refine q_iconst rfl rfl ?_
              refine q_iret rfl rfl trivial ?_
              refine ⟨_, rfl, ?_⟩
              refine q_aload_n rfl rfl rfl ?_
              refine q_aload_nF rfl rfl rfl ?_
              refine q_iload rfl rfl rfl ?_
              refine q_iconst rfl rfl ?_
              refine q_iadd rfl rfl (q_tn (z := 1) rfl ?_)
              refine q_ialdX (x := 2) rfl rfl rfl hx1 ?_
              refine q_aload_nF rfl rfl rfl ?_
              refine q_iload rfl rfl rfl ?_
              refine q_iconst rfl rfl ?_
              refine q_iadd rfl rfl (q_tn (z := 2) rfl ?_)
              refine q_ialdX (x := 3) rfl rfl rfl hx2 ?_
              refine q_aload_nF rfl rfl rfl ?_
              refine q_iload rfl rfl rfl ?_
              refine q_iconst rfl rfl ?_
              refine q_iadd rfl rfl (q_tn (z := 3) rfl ?_)
              refine q_ialdX (x := x3) rfl rfl rfl hx3 ?_
              refine q_nV3 rfl rfl (Or.inl rfl) rfl rfl rfl (by decide) (FW_46 S hW) ⟨rfl, rfl⟩ rfl ?_
              change PQ _ _ _ mm_X12_make 0 [.ref 46, .int 2, .int 3, .int x3] [] _ _ 0 0 _
              refine q_aload_n rfl rfl rfl ?_
              refine q_iload_n rfl rfl rfl ?_
              refine q_nV1 rfl rfl (Or.inl rfl) rfl rfl rfl (by decide) (FW_46 S hW) ⟨rfl, rfl⟩ rfl ?_
              change PQ _ _ _ mm_X12_isShelf 0 [.ref 46, .int 2] [] _ _ 0 0 _
              refine q_aload_n rfl rfl rfl ?_
              refine q_iload_n rfl rfl rfl ?_
              refine q_iconst rfl rfl ?_
              refine q_bipush rfl rfl ?_
              refine q_nV3 rfl rfl (Or.inl rfl) rfl rfl rfl (by decide) (FW_46 S hW) ⟨rfl, rfl⟩ rfl ?_
              change PQ _ _ _ mm_X12_in 0 [.ref 46, .int 2, .int 0, .int 7] [] _ _ 0 0 _
              refine q_iload_n rfl rfl rfl ?_
              refine q_iload_n rfl rfl rfl ?_
              refine q_iclt rfl rfl (fun c39 => absurd c39 (by decide)) (fun c39 => ?_)
              refine q_iload_n rfl rfl rfl ?_
              refine q_iload_n rfl rfl rfl ?_
              refine q_icgt rfl rfl (fun c40 => absurd c40 (by decide)) (fun c40 => ?_)
              refine q_iconst rfl rfl ?_
              refine q_goto rfl ?_
              refine q_iret rfl rfl rfl ?_
              refine ⟨_, rfl, ?_⟩
              refine q_iret rfl rfl rfl ?_
              refine ⟨_, rfl, ?_⟩
              refine q_ifeq rfl rfl (fun c41 => absurd c41 (by decide)) (fun c41 => ?_)
              refine q_aload_n rfl rfl rfl ?_
              refine q_iload_n rfl rfl rfl ?_
              refine q_iconst rfl rfl ?_
              refine q_iconst rfl rfl ?_
              refine q_nV3 rfl rfl (Or.inl rfl) rfl rfl rfl (by decide) (FW_46 S hW) ⟨rfl, rfl⟩ rfl ?_
              change PQ _ _ _ mm_X12_in 0 [.ref 46, .int 3, .int 3, .int 4] [] _ _ 0 0 _
              refine q_iload_n rfl rfl rfl ?_
              refine q_iload_n rfl rfl rfl ?_
              refine q_iclt rfl rfl (fun c42 => absurd c42 (by decide)) (fun c42 => ?_)
              refine q_iload_n rfl rfl rfl ?_
              refine q_iload_n rfl rfl rfl ?_
              refine q_icgt rfl rfl (fun c43 => absurd c43 (by decide)) (fun c43 => ?_)
              refine q_iconst rfl rfl ?_
              refine q_goto rfl ?_
              refine q_iret rfl rfl rfl ?_
              refine ⟨_, rfl, ?_⟩
              refine q_ifeq rfl rfl (fun c44 => absurd c44 (by decide)) (fun c44 => ?_)
              refine q_iload_n rfl rfl rfl ?_
              refine q_bipush rfl rfl ?_
              refine q_icle rfl rfl (fun c45 => ?_) (fun c45 => absurd (i_le_t c16 rfl) c45)
              refine q_iload_n rfl rfl rfl ?_
              refine q_ifge rfl rfl (fun c46 => ?_) (fun c46 => absurd (i_ge_t c17 rfl) c46)
              refine q_aload_n rfl rfl rfl ?_
              refine q_getf rfl rfl (by decide) (FW_46 S hW) rfl ?_
              refine q_iload_n rfl rfl rfl ?_
              refine q_iload_n rfl rfl rfl ?_
              refine q_iast rfl rfl (by decide) (FW_75 S hW) (by decide) ?_
              refine q_aload_n rfl rfl rfl ?_
              refine q_getf rfl rfl (by decide) (FW_46 S hW) rfl ?_
              refine q_iload_n rfl rfl rfl ?_
              refine q_iload_n rfl rfl rfl ?_
              refine q_iast rfl rfl (by decide) (FW_78 S hW) (by decide) ?_
              refine q_aload_n rfl rfl rfl ?_
              refine q_iload_n rfl rfl rfl ?_
              refine q_cV1v rfl rfl (Or.inl rfl) rfl rfl rfl (by decide) (FW_46 S hW) ⟨rfl, rfl⟩ rfl (fun K' hK' => l_clear (D := 2) (by decide) rfl (by decide) (FW_46 S hW) rfl (FW_79 S hW) hK') ?_
              refine q_iconst rfl rfl ?_
              refine q_iret rfl rfl trivial ?_
              refine ⟨_, rfl, ?_⟩
              refine q_iceq rfl rfl (fun c47 => ?_) (fun c47 => absurd (by decide) c47)
              refine q_icc4 (z := 6) rfl rfl rfl rfl rfl ?_
              refine q_goto rfl ?_
              refine q_iload rfl rfl rfl ?_
              refine q_aload_nF rfl rfl rfl ?_
              refine q_alenX (x := 6) rfl rfl rfl ?_
              refine q_bipush rfl rfl ?_
              refine q_isub rfl rfl (q_tn (z := 0) rfl ?_)
              refine q_icgt rfl rfl (fun c48 => ?_) (fun c48 => absurd (by decide) c48)
              refine q_iconst rfl rfl ?_
              refine q_iret rfl rfl rfl ?_
              exact hK _ _
            · refine q_aast rfl rfl (by decide) (by decide) (FW_43 S hW) rfl rfl (by decide) ?_
              refine q_iconst rfl rfl ?_
              refine q_iret rfl rfl trivial ?_
              refine ⟨_, rfl, ?_⟩
              refine q_aload_n rfl rfl rfl ?_
              refine q_aload_nF rfl rfl rfl ?_
              refine q_iload rfl rfl rfl ?_
              refine q_iconst rfl rfl ?_
              refine q_iadd rfl rfl (q_tn (z := 1) rfl ?_)
              refine q_ialdX (x := 3) rfl rfl rfl hx1 ?_
              refine q_aload_nF rfl rfl rfl ?_
              refine q_iload rfl rfl rfl ?_
              refine q_iconst rfl rfl ?_
              refine q_iadd rfl rfl (q_tn (z := 2) rfl ?_)
              refine q_ialdX (x := 3) rfl rfl rfl hx2 ?_
              refine q_aload_nF rfl rfl rfl ?_
              refine q_iload rfl rfl rfl ?_
              refine q_iconst rfl rfl ?_
              refine q_iadd rfl rfl (q_tn (z := 3) rfl ?_)
              refine q_ialdX (x := x3) rfl rfl rfl hx3 ?_
              refine q_nV3 rfl rfl (Or.inl rfl) rfl rfl rfl (by decide) (FW_46 S hW) ⟨rfl, rfl⟩ rfl ?_
              change PQ _ _ _ mm_X12_make 0 [.ref 46, .int 3, .int 3, .int x3] [] _ _ 0 0 _
              refine q_aload_n rfl rfl rfl ?_
              refine q_iload_n rfl rfl rfl ?_
              refine q_nV1 rfl rfl (Or.inl rfl) rfl rfl rfl (by decide) (FW_46 S hW) ⟨rfl, rfl⟩ rfl ?_
              change PQ _ _ _ mm_X12_isShelf 0 [.ref 46, .int 3] [] _ _ 0 0 _
              refine q_aload_n rfl rfl rfl ?_
              refine q_iload_n rfl rfl rfl ?_
              refine q_iconst rfl rfl ?_
              refine q_bipush rfl rfl ?_
              refine q_nV3 rfl rfl (Or.inl rfl) rfl rfl rfl (by decide) (FW_46 S hW) ⟨rfl, rfl⟩ rfl ?_
              change PQ _ _ _ mm_X12_in 0 [.ref 46, .int 3, .int 0, .int 7] [] _ _ 0 0 _
              refine q_iload_n rfl rfl rfl ?_
              refine q_iload_n rfl rfl rfl ?_
              refine q_iclt rfl rfl (fun c49 => absurd c49 (by decide)) (fun c49 => ?_)
              refine q_iload_n rfl rfl rfl ?_
              refine q_iload_n rfl rfl rfl ?_
              refine q_icgt rfl rfl (fun c50 => absurd c50 (by decide)) (fun c50 => ?_)
              refine q_iconst rfl rfl ?_
              refine q_goto rfl ?_
              refine q_iret rfl rfl rfl ?_
              refine ⟨_, rfl, ?_⟩
              refine q_iret rfl rfl rfl ?_
              refine ⟨_, rfl, ?_⟩
              refine q_ifeq rfl rfl (fun c51 => absurd c51 (by decide)) (fun c51 => ?_)
              refine q_aload_n rfl rfl rfl ?_
              refine q_iload_n rfl rfl rfl ?_
              refine q_iconst rfl rfl ?_
              refine q_iconst rfl rfl ?_
              refine q_nV3 rfl rfl (Or.inl rfl) rfl rfl rfl (by decide) (FW_46 S hW) ⟨rfl, rfl⟩ rfl ?_
              change PQ _ _ _ mm_X12_in 0 [.ref 46, .int 3, .int 3, .int 4] [] _ _ 0 0 _
              refine q_iload_n rfl rfl rfl ?_
              refine q_iload_n rfl rfl rfl ?_
              refine q_iclt rfl rfl (fun c52 => absurd c52 (by decide)) (fun c52 => ?_)
              refine q_iload_n rfl rfl rfl ?_
              refine q_iload_n rfl rfl rfl ?_
              refine q_icgt rfl rfl (fun c53 => absurd c53 (by decide)) (fun c53 => ?_)
              refine q_iconst rfl rfl ?_
              refine q_goto rfl ?_
              refine q_iret rfl rfl rfl ?_
              refine ⟨_, rfl, ?_⟩
              refine q_ifeq rfl rfl (fun c54 => absurd c54 (by decide)) (fun c54 => ?_)
              refine q_iload_n rfl rfl rfl ?_
              refine q_bipush rfl rfl ?_
              refine q_icle rfl rfl (fun c55 => ?_) (fun c55 => absurd (i_le_t c16 rfl) c55)
              refine q_iload_n rfl rfl rfl ?_
              refine q_ifge rfl rfl (fun c56 => ?_) (fun c56 => absurd (i_ge_t c17 rfl) c56)
              refine q_aload_n rfl rfl rfl ?_
              refine q_getf rfl rfl (by decide) (FW_46 S hW) rfl ?_
              refine q_iload_n rfl rfl rfl ?_
              refine q_iload_n rfl rfl rfl ?_
              refine q_iast rfl rfl (by decide) (FW_75 S hW) (by decide) ?_
              refine q_aload_n rfl rfl rfl ?_
              refine q_getf rfl rfl (by decide) (FW_46 S hW) rfl ?_
              refine q_iload_n rfl rfl rfl ?_
              refine q_iload_n rfl rfl rfl ?_
              refine q_iast rfl rfl (by decide) (FW_78 S hW) (by decide) ?_
              refine q_aload_n rfl rfl rfl ?_
              refine q_iload_n rfl rfl rfl ?_
              refine q_cV1v rfl rfl (Or.inl rfl) rfl rfl rfl (by decide) (FW_46 S hW) ⟨rfl, rfl⟩ rfl (fun K' hK' => l_clear (D := 3) (by decide) rfl (by decide) (FW_46 S hW) rfl (FW_79 S hW) hK') ?_
              refine q_iconst rfl rfl ?_
              refine q_iret rfl rfl trivial ?_
              refine ⟨_, rfl, ?_⟩
              refine q_iceq rfl rfl (fun c57 => ?_) (fun c57 => absurd (by decide) c57)
              refine q_icc4 (z := 6) rfl rfl rfl rfl rfl ?_
              refine q_goto rfl ?_
              refine q_iload rfl rfl rfl ?_
              refine q_aload_nF rfl rfl rfl ?_
              refine q_alenX (x := 6) rfl rfl rfl ?_
              refine q_bipush rfl rfl ?_
              refine q_isub rfl rfl (q_tn (z := 0) rfl ?_)
              refine q_icgt rfl rfl (fun c58 => ?_) (fun c58 => absurd (by decide) c58)
              refine q_iconst rfl rfl ?_
              refine q_iret rfl rfl rfl ?_
              exact hK _ _
            · refine q_aast rfl rfl (by decide) (by decide) (FW_43 S hW) rfl rfl (by decide) ?_
              refine q_iconst rfl rfl ?_
              refine q_iret rfl rfl trivial ?_
              refine ⟨_, rfl, ?_⟩
              refine q_aload_n rfl rfl rfl ?_
              refine q_aload_nF rfl rfl rfl ?_
              refine q_iload rfl rfl rfl ?_
              refine q_iconst rfl rfl ?_
              refine q_iadd rfl rfl (q_tn (z := 1) rfl ?_)
              refine q_ialdX (x := 4) rfl rfl rfl hx1 ?_
              refine q_aload_nF rfl rfl rfl ?_
              refine q_iload rfl rfl rfl ?_
              refine q_iconst rfl rfl ?_
              refine q_iadd rfl rfl (q_tn (z := 2) rfl ?_)
              refine q_ialdX (x := 3) rfl rfl rfl hx2 ?_
              refine q_aload_nF rfl rfl rfl ?_
              refine q_iload rfl rfl rfl ?_
              refine q_iconst rfl rfl ?_
              refine q_iadd rfl rfl (q_tn (z := 3) rfl ?_)
              refine q_ialdX (x := x3) rfl rfl rfl hx3 ?_
              refine q_nV3 rfl rfl (Or.inl rfl) rfl rfl rfl (by decide) (FW_46 S hW) ⟨rfl, rfl⟩ rfl ?_
              change PQ _ _ _ mm_X12_make 0 [.ref 46, .int 4, .int 3, .int x3] [] _ _ 0 0 _
              refine q_aload_n rfl rfl rfl ?_
              refine q_iload_n rfl rfl rfl ?_
              refine q_nV1 rfl rfl (Or.inl rfl) rfl rfl rfl (by decide) (FW_46 S hW) ⟨rfl, rfl⟩ rfl ?_
              change PQ _ _ _ mm_X12_isShelf 0 [.ref 46, .int 4] [] _ _ 0 0 _
              refine q_aload_n rfl rfl rfl ?_
              refine q_iload_n rfl rfl rfl ?_
              refine q_iconst rfl rfl ?_
              refine q_bipush rfl rfl ?_
              refine q_nV3 rfl rfl (Or.inl rfl) rfl rfl rfl (by decide) (FW_46 S hW) ⟨rfl, rfl⟩ rfl ?_
              change PQ _ _ _ mm_X12_in 0 [.ref 46, .int 4, .int 0, .int 7] [] _ _ 0 0 _
              refine q_iload_n rfl rfl rfl ?_
              refine q_iload_n rfl rfl rfl ?_
              refine q_iclt rfl rfl (fun c59 => absurd c59 (by decide)) (fun c59 => ?_)
              refine q_iload_n rfl rfl rfl ?_
              refine q_iload_n rfl rfl rfl ?_
              refine q_icgt rfl rfl (fun c60 => absurd c60 (by decide)) (fun c60 => ?_)
              refine q_iconst rfl rfl ?_
              refine q_goto rfl ?_
              refine q_iret rfl rfl rfl ?_
              refine ⟨_, rfl, ?_⟩
              refine q_iret rfl rfl rfl ?_
              refine ⟨_, rfl, ?_⟩
              refine q_ifeq rfl rfl (fun c61 => absurd c61 (by decide)) (fun c61 => ?_)
              refine q_aload_n rfl rfl rfl ?_
              refine q_iload_n rfl rfl rfl ?_
              refine q_iconst rfl rfl ?_
              refine q_iconst rfl rfl ?_
              refine q_nV3 rfl rfl (Or.inl rfl) rfl rfl rfl (by decide) (FW_46 S hW) ⟨rfl, rfl⟩ rfl ?_
              change PQ _ _ _ mm_X12_in 0 [.ref 46, .int 3, .int 3, .int 4] [] _ _ 0 0 _
              refine q_iload_n rfl rfl rfl ?_
              refine q_iload_n rfl rfl rfl ?_
              refine q_iclt rfl rfl (fun c62 => absurd c62 (by decide)) (fun c62 => ?_)
              refine q_iload_n rfl rfl rfl ?_
              refine q_iload_n rfl rfl rfl ?_
              refine q_icgt rfl rfl (fun c63 => absurd c63 (by decide)) (fun c63 => ?_)
              refine q_iconst rfl rfl ?_
              refine q_goto rfl ?_
              refine q_iret rfl rfl rfl ?_
              refine ⟨_, rfl, ?_⟩
              refine q_ifeq rfl rfl (fun c64 => absurd c64 (by decide)) (fun c64 => ?_)
              refine q_iload_n rfl rfl rfl ?_
              refine q_bipush rfl rfl ?_
              refine q_icle rfl rfl (fun c65 => ?_) (fun c65 => absurd (i_le_t c16 rfl) c65)
              refine q_iload_n rfl rfl rfl ?_
              refine q_ifge rfl rfl (fun c66 => ?_) (fun c66 => absurd (i_ge_t c17 rfl) c66)
              refine q_aload_n rfl rfl rfl ?_
              refine q_getf rfl rfl (by decide) (FW_46 S hW) rfl ?_
              refine q_iload_n rfl rfl rfl ?_
              refine q_iload_n rfl rfl rfl ?_
              refine q_iast rfl rfl (by decide) (FW_75 S hW) (by decide) ?_
              refine q_aload_n rfl rfl rfl ?_
              refine q_getf rfl rfl (by decide) (FW_46 S hW) rfl ?_
              refine q_iload_n rfl rfl rfl ?_
              refine q_iload_n rfl rfl rfl ?_
              refine q_iast rfl rfl (by decide) (FW_78 S hW) (by decide) ?_
              refine q_aload_n rfl rfl rfl ?_
              refine q_iload_n rfl rfl rfl ?_
              refine q_cV1v rfl rfl (Or.inl rfl) rfl rfl rfl (by decide) (FW_46 S hW) ⟨rfl, rfl⟩ rfl (fun K' hK' => l_clear (D := 4) (by decide) rfl (by decide) (FW_46 S hW) rfl (FW_79 S hW) hK') ?_
              refine q_iconst rfl rfl ?_
              refine q_iret rfl rfl trivial ?_
              refine ⟨_, rfl, ?_⟩
              refine q_iceq rfl rfl (fun c67 => ?_) (fun c67 => absurd (by decide) c67)
              refine q_icc4 (z := 6) rfl rfl rfl rfl rfl ?_
              refine q_goto rfl ?_
              refine q_iload rfl rfl rfl ?_
              refine q_aload_nF rfl rfl rfl ?_
              refine q_alenX (x := 6) rfl rfl rfl ?_
              refine q_bipush rfl rfl ?_
              refine q_isub rfl rfl (q_tn (z := 0) rfl ?_)
              refine q_icgt rfl rfl (fun c68 => ?_) (fun c68 => absurd (by decide) c68)
              refine q_iconst rfl rfl ?_
              refine q_iret rfl rfl rfl ?_
              exact hK _ _
            · refine q_aast rfl rfl (by decide) (by decide) (FW_43 S hW) rfl rfl (by decide) ?_
              refine q_iconst rfl rfl ?_
              refine q_iret rfl rfl trivial ?_
              refine ⟨_, rfl, ?_⟩
              refine q_aload_n rfl rfl rfl ?_
              refine q_aload_nF rfl rfl rfl ?_
              refine q_iload rfl rfl rfl ?_
              refine q_iconst rfl rfl ?_
              refine q_iadd rfl rfl (q_tn (z := 1) rfl ?_)
              refine q_ialdX (x := 5) rfl rfl rfl hx1 ?_
              refine q_aload_nF rfl rfl rfl ?_
              refine q_iload rfl rfl rfl ?_
              refine q_iconst rfl rfl ?_
              refine q_iadd rfl rfl (q_tn (z := 2) rfl ?_)
              refine q_ialdX (x := 3) rfl rfl rfl hx2 ?_
              refine q_aload_nF rfl rfl rfl ?_
              refine q_iload rfl rfl rfl ?_
              refine q_iconst rfl rfl ?_
              refine q_iadd rfl rfl (q_tn (z := 3) rfl ?_)
              refine q_ialdX (x := x3) rfl rfl rfl hx3 ?_
              refine q_nV3 rfl rfl (Or.inl rfl) rfl rfl rfl (by decide) (FW_46 S hW) ⟨rfl, rfl⟩ rfl ?_
              change PQ _ _ _ mm_X12_make 0 [.ref 46, .int 5, .int 3, .int x3] [] _ _ 0 0 _
              refine q_aload_n rfl rfl rfl ?_
              refine q_iload_n rfl rfl rfl ?_
              refine q_nV1 rfl rfl (Or.inl rfl) rfl rfl rfl (by decide) (FW_46 S hW) ⟨rfl, rfl⟩ rfl ?_
              change PQ _ _ _ mm_X12_isShelf 0 [.ref 46, .int 5] [] _ _ 0 0 _
              refine q_aload_n rfl rfl rfl ?_
              refine q_iload_n rfl rfl rfl ?_
              refine q_iconst rfl rfl ?_
              refine q_bipush rfl rfl ?_
              refine q_nV3 rfl rfl (Or.inl rfl) rfl rfl rfl (by decide) (FW_46 S hW) ⟨rfl, rfl⟩ rfl ?_
              change PQ _ _ _ mm_X12_in 0 [.ref 46, .int 5, .int 0, .int 7] [] _ _ 0 0 _
              refine q_iload_n rfl rfl rfl ?_
              refine q_iload_n rfl rfl rfl ?_
              refine q_iclt rfl rfl (fun c69 => absurd c69 (by decide)) (fun c69 => ?_)
              refine q_iload_n rfl rfl rfl ?_
              refine q_iload_n rfl rfl rfl ?_
              refine q_icgt rfl rfl (fun c70 => absurd c70 (by decide)) (fun c70 => ?_)
              refine q_iconst rfl rfl ?_
              refine q_goto rfl ?_
              refine q_iret rfl rfl rfl ?_
              refine ⟨_, rfl, ?_⟩
              refine q_iret rfl rfl rfl ?_
              refine ⟨_, rfl, ?_⟩
              refine q_ifeq rfl rfl (fun c71 => absurd c71 (by decide)) (fun c71 => ?_)
              refine q_aload_n rfl rfl rfl ?_
              refine q_iload_n rfl rfl rfl ?_
              refine q_iconst rfl rfl ?_
              refine q_iconst rfl rfl ?_
              refine q_nV3 rfl rfl (Or.inl rfl) rfl rfl rfl (by decide) (FW_46 S hW) ⟨rfl, rfl⟩ rfl ?_
              change PQ _ _ _ mm_X12_in 0 [.ref 46, .int 3, .int 3, .int 4] [] _ _ 0 0 _
              refine q_iload_n rfl rfl rfl ?_
              refine q_iload_n rfl rfl rfl ?_
              refine q_iclt rfl rfl (fun c72 => absurd c72 (by decide)) (fun c72 => ?_)
              refine q_iload_n rfl rfl rfl ?_
              refine q_iload_n rfl rfl rfl ?_
              refine q_icgt rfl rfl (fun c73 => absurd c73 (by decide)) (fun c73 => ?_)
              refine q_iconst rfl rfl ?_
              refine q_goto rfl ?_
              refine q_iret rfl rfl rfl ?_
              refine ⟨_, rfl, ?_⟩
              refine q_ifeq rfl rfl (fun c74 => absurd c74 (by decide)) (fun c74 => ?_)
              refine q_iload_n rfl rfl rfl ?_
              refine q_bipush rfl rfl ?_
              refine q_icle rfl rfl (fun c75 => ?_) (fun c75 => absurd (i_le_t c16 rfl) c75)
              refine q_iload_n rfl rfl rfl ?_
              refine q_ifge rfl rfl (fun c76 => ?_) (fun c76 => absurd (i_ge_t c17 rfl) c76)
              refine q_aload_n rfl rfl rfl ?_
              refine q_getf rfl rfl (by decide) (FW_46 S hW) rfl ?_
              refine q_iload_n rfl rfl rfl ?_
              refine q_iload_n rfl rfl rfl ?_
              refine q_iast rfl rfl (by decide) (FW_75 S hW) (by decide) ?_
              refine q_aload_n rfl rfl rfl ?_
              refine q_getf rfl rfl (by decide) (FW_46 S hW) rfl ?_
              refine q_iload_n rfl rfl rfl ?_
              refine q_iload_n rfl rfl rfl ?_
              refine q_iast rfl rfl (by decide) (FW_78 S hW) (by decide) ?_
              refine q_aload_n rfl rfl rfl ?_
              refine q_iload_n rfl rfl rfl ?_
              refine q_cV1v rfl rfl (Or.inl rfl) rfl rfl rfl (by decide) (FW_46 S hW) ⟨rfl, rfl⟩ rfl (fun K' hK' => l_clear (D := 5) (by decide) rfl (by decide) (FW_46 S hW) rfl (FW_79 S hW) hK') ?_
              refine q_iconst rfl rfl ?_
              refine q_iret rfl rfl trivial ?_
              refine ⟨_, rfl, ?_⟩
              refine q_iceq rfl rfl (fun c77 => ?_) (fun c77 => absurd (by decide) c77)
              refine q_icc4 (z := 6) rfl rfl rfl rfl rfl ?_
              refine q_goto rfl ?_
              refine q_iload rfl rfl rfl ?_
              refine q_aload_nF rfl rfl rfl ?_
              refine q_alenX (x := 6) rfl rfl rfl ?_
              refine q_bipush rfl rfl ?_
              refine q_isub rfl rfl (q_tn (z := 0) rfl ?_)
              refine q_icgt rfl rfl (fun c78 => ?_) (fun c78 => absurd (by decide) c78)
              refine q_iconst rfl rfl ?_
              refine q_iret rfl rfl rfl ?_
              exact hK _ _
            · refine q_aast rfl rfl (by decide) (by decide) (FW_43 S hW) rfl rfl (by decide) ?_
              refine q_iconst rfl rfl ?_
              refine q_iret rfl rfl trivial ?_
              refine ⟨_, rfl, ?_⟩
              refine q_aload_n rfl rfl rfl ?_
              refine q_aload_nF rfl rfl rfl ?_
              refine q_iload rfl rfl rfl ?_
              refine q_iconst rfl rfl ?_
              refine q_iadd rfl rfl (q_tn (z := 1) rfl ?_)
              refine q_ialdX (x := 6) rfl rfl rfl hx1 ?_
              refine q_aload_nF rfl rfl rfl ?_
              refine q_iload rfl rfl rfl ?_
              refine q_iconst rfl rfl ?_
              refine q_iadd rfl rfl (q_tn (z := 2) rfl ?_)
              refine q_ialdX (x := 3) rfl rfl rfl hx2 ?_
              refine q_aload_nF rfl rfl rfl ?_
              refine q_iload rfl rfl rfl ?_
              refine q_iconst rfl rfl ?_
              refine q_iadd rfl rfl (q_tn (z := 3) rfl ?_)
              refine q_ialdX (x := x3) rfl rfl rfl hx3 ?_
              refine q_nV3 rfl rfl (Or.inl rfl) rfl rfl rfl (by decide) (FW_46 S hW) ⟨rfl, rfl⟩ rfl ?_
              change PQ _ _ _ mm_X12_make 0 [.ref 46, .int 6, .int 3, .int x3] [] _ _ 0 0 _
              refine q_aload_n rfl rfl rfl ?_
              refine q_iload_n rfl rfl rfl ?_
              refine q_nV1 rfl rfl (Or.inl rfl) rfl rfl rfl (by decide) (FW_46 S hW) ⟨rfl, rfl⟩ rfl ?_
              change PQ _ _ _ mm_X12_isShelf 0 [.ref 46, .int 6] [] _ _ 0 0 _
              refine q_aload_n rfl rfl rfl ?_
              refine q_iload_n rfl rfl rfl ?_
              refine q_iconst rfl rfl ?_
              refine q_bipush rfl rfl ?_
              refine q_nV3 rfl rfl (Or.inl rfl) rfl rfl rfl (by decide) (FW_46 S hW) ⟨rfl, rfl⟩ rfl ?_
              change PQ _ _ _ mm_X12_in 0 [.ref 46, .int 6, .int 0, .int 7] [] _ _ 0 0 _
              refine q_iload_n rfl rfl rfl ?_
              refine q_iload_n rfl rfl rfl ?_
              refine q_iclt rfl rfl (fun c79 => absurd c79 (by decide)) (fun c79 => ?_)
              refine q_iload_n rfl rfl rfl ?_
              refine q_iload_n rfl rfl rfl ?_
              refine q_icgt rfl rfl (fun c80 => absurd c80 (by decide)) (fun c80 => ?_)
              refine q_iconst rfl rfl ?_
              refine q_goto rfl ?_
              refine q_iret rfl rfl rfl ?_
              refine ⟨_, rfl, ?_⟩
              refine q_iret rfl rfl rfl ?_
              refine ⟨_, rfl, ?_⟩
              refine q_ifeq rfl rfl (fun c81 => absurd c81 (by decide)) (fun c81 => ?_)
              refine q_aload_n rfl rfl rfl ?_
              refine q_iload_n rfl rfl rfl ?_
              refine q_iconst rfl rfl ?_
              refine q_iconst rfl rfl ?_
              refine q_nV3 rfl rfl (Or.inl rfl) rfl rfl rfl (by decide) (FW_46 S hW) ⟨rfl, rfl⟩ rfl ?_
              change PQ _ _ _ mm_X12_in 0 [.ref 46, .int 3, .int 3, .int 4] [] _ _ 0 0 _
              refine q_iload_n rfl rfl rfl ?_
              refine q_iload_n rfl rfl rfl ?_
              refine q_iclt rfl rfl (fun c82 => absurd c82 (by decide)) (fun c82 => ?_)
              refine q_iload_n rfl rfl rfl ?_
              refine q_iload_n rfl rfl rfl ?_
              refine q_icgt rfl rfl (fun c83 => absurd c83 (by decide)) (fun c83 => ?_)
              refine q_iconst rfl rfl ?_
              refine q_goto rfl ?_
              refine q_iret rfl rfl rfl ?_
              refine ⟨_, rfl, ?_⟩
              refine q_ifeq rfl rfl (fun c84 => absurd c84 (by decide)) (fun c84 => ?_)
              refine q_iload_n rfl rfl rfl ?_
              refine q_bipush rfl rfl ?_
              refine q_icle rfl rfl (fun c85 => ?_) (fun c85 => absurd (i_le_t c16 rfl) c85)
              refine q_iload_n rfl rfl rfl ?_
              refine q_ifge rfl rfl (fun c86 => ?_) (fun c86 => absurd (i_ge_t c17 rfl) c86)
              refine q_aload_n rfl rfl rfl ?_
              refine q_getf rfl rfl (by decide) (FW_46 S hW) rfl ?_
              refine q_iload_n rfl rfl rfl ?_
              refine q_iload_n rfl rfl rfl ?_
              refine q_iast rfl rfl (by decide) (FW_75 S hW) (by decide) ?_
              refine q_aload_n rfl rfl rfl ?_
              refine q_getf rfl rfl (by decide) (FW_46 S hW) rfl ?_
              refine q_iload_n rfl rfl rfl ?_
              refine q_iload_n rfl rfl rfl ?_
              refine q_iast rfl rfl (by decide) (FW_78 S hW) (by decide) ?_
              refine q_aload_n rfl rfl rfl ?_
              refine q_iload_n rfl rfl rfl ?_
              refine q_cV1v rfl rfl (Or.inl rfl) rfl rfl rfl (by decide) (FW_46 S hW) ⟨rfl, rfl⟩ rfl (fun K' hK' => l_clear (D := 6) (by decide) rfl (by decide) (FW_46 S hW) rfl (FW_79 S hW) hK') ?_
              refine q_iconst rfl rfl ?_
              refine q_iret rfl rfl trivial ?_
              refine ⟨_, rfl, ?_⟩
              refine q_iceq rfl rfl (fun c87 => ?_) (fun c87 => absurd (by decide) c87)
              refine q_icc4 (z := 6) rfl rfl rfl rfl rfl ?_
              refine q_goto rfl ?_
              refine q_iload rfl rfl rfl ?_
              refine q_aload_nF rfl rfl rfl ?_
              refine q_alenX (x := 6) rfl rfl rfl ?_
              refine q_bipush rfl rfl ?_
              refine q_isub rfl rfl (q_tn (z := 0) rfl ?_)
              refine q_icgt rfl rfl (fun c88 => ?_) (fun c88 => absurd (by decide) c88)
              refine q_iconst rfl rfl ?_
              refine q_iret rfl rfl rfl ?_
              exact hK _ _
            · refine q_aast rfl rfl (by decide) (by decide) (FW_43 S hW) rfl rfl (by decide) ?_
              refine q_iconst rfl rfl ?_
              refine q_iret rfl rfl trivial ?_
              refine ⟨_, rfl, ?_⟩
              refine q_aload_n rfl rfl rfl ?_
              refine q_aload_nF rfl rfl rfl ?_
              refine q_iload rfl rfl rfl ?_
              refine q_iconst rfl rfl ?_
              refine q_iadd rfl rfl (q_tn (z := 1) rfl ?_)
              refine q_ialdX (x := 7) rfl rfl rfl hx1 ?_
              refine q_aload_nF rfl rfl rfl ?_
              refine q_iload rfl rfl rfl ?_
              refine q_iconst rfl rfl ?_
              refine q_iadd rfl rfl (q_tn (z := 2) rfl ?_)
              refine q_ialdX (x := 3) rfl rfl rfl hx2 ?_
              refine q_aload_nF rfl rfl rfl ?_
              refine q_iload rfl rfl rfl ?_
              refine q_iconst rfl rfl ?_
              refine q_iadd rfl rfl (q_tn (z := 3) rfl ?_)
              refine q_ialdX (x := x3) rfl rfl rfl hx3 ?_
              refine q_nV3 rfl rfl (Or.inl rfl) rfl rfl rfl (by decide) (FW_46 S hW) ⟨rfl, rfl⟩ rfl ?_
              change PQ _ _ _ mm_X12_make 0 [.ref 46, .int 7, .int 3, .int x3] [] _ _ 0 0 _
              refine q_aload_n rfl rfl rfl ?_
              refine q_iload_n rfl rfl rfl ?_
              refine q_nV1 rfl rfl (Or.inl rfl) rfl rfl rfl (by decide) (FW_46 S hW) ⟨rfl, rfl⟩ rfl ?_
              change PQ _ _ _ mm_X12_isShelf 0 [.ref 46, .int 7] [] _ _ 0 0 _
              refine q_aload_n rfl rfl rfl ?_
              refine q_iload_n rfl rfl rfl ?_
              refine q_iconst rfl rfl ?_
              refine q_bipush rfl rfl ?_
              refine q_nV3 rfl rfl (Or.inl rfl) rfl rfl rfl (by decide) (FW_46 S hW) ⟨rfl, rfl⟩ rfl ?_
              change PQ _ _ _ mm_X12_in 0 [.ref 46, .int 7, .int 0, .int 7] [] _ _ 0 0 _
              refine q_iload_n rfl rfl rfl ?_
              refine q_iload_n rfl rfl rfl ?_
              refine q_iclt rfl rfl (fun c89 => absurd c89 (by decide)) (fun c89 => ?_)
              refine q_iload_n rfl rfl rfl ?_
              refine q_iload_n rfl rfl rfl ?_
              refine q_icgt rfl rfl (fun c90 => absurd c90 (by decide)) (fun c90 => ?_)
              refine q_iconst rfl rfl ?_
              refine q_goto rfl ?_
              refine q_iret rfl rfl rfl ?_
              refine ⟨_, rfl, ?_⟩
              refine q_iret rfl rfl rfl ?_
              refine ⟨_, rfl, ?_⟩
              refine q_ifeq rfl rfl (fun c91 => absurd c91 (by decide)) (fun c91 => ?_)
              refine q_aload_n rfl rfl rfl ?_
              refine q_iload_n rfl rfl rfl ?_
              refine q_iconst rfl rfl ?_
              refine q_iconst rfl rfl ?_
              refine q_nV3 rfl rfl (Or.inl rfl) rfl rfl rfl (by decide) (FW_46 S hW) ⟨rfl, rfl⟩ rfl ?_
              change PQ _ _ _ mm_X12_in 0 [.ref 46, .int 3, .int 3, .int 4] [] _ _ 0 0 _
              refine q_iload_n rfl rfl rfl ?_
              refine q_iload_n rfl rfl rfl ?_
              refine q_iclt rfl rfl (fun c92 => absurd c92 (by decide)) (fun c92 => ?_)
              refine q_iload_n rfl rfl rfl ?_
              refine q_iload_n rfl rfl rfl ?_
              refine q_icgt rfl rfl (fun c93 => absurd c93 (by decide)) (fun c93 => ?_)
              refine q_iconst rfl rfl ?_
              refine q_goto rfl ?_
              refine q_iret rfl rfl rfl ?_
              refine ⟨_, rfl, ?_⟩
              refine q_ifeq rfl rfl (fun c94 => absurd c94 (by decide)) (fun c94 => ?_)
              refine q_iload_n rfl rfl rfl ?_
              refine q_bipush rfl rfl ?_
              refine q_icle rfl rfl (fun c95 => ?_) (fun c95 => absurd (i_le_t c16 rfl) c95)
              refine q_iload_n rfl rfl rfl ?_
              refine q_ifge rfl rfl (fun c96 => ?_) (fun c96 => absurd (i_ge_t c17 rfl) c96)
              refine q_aload_n rfl rfl rfl ?_
              refine q_getf rfl rfl (by decide) (FW_46 S hW) rfl ?_
              refine q_iload_n rfl rfl rfl ?_
              refine q_iload_n rfl rfl rfl ?_
              refine q_iast rfl rfl (by decide) (FW_75 S hW) (by decide) ?_
              refine q_aload_n rfl rfl rfl ?_
              refine q_getf rfl rfl (by decide) (FW_46 S hW) rfl ?_
              refine q_iload_n rfl rfl rfl ?_
              refine q_iload_n rfl rfl rfl ?_
              refine q_iast rfl rfl (by decide) (FW_78 S hW) (by decide) ?_
              refine q_aload_n rfl rfl rfl ?_
              refine q_iload_n rfl rfl rfl ?_
              refine q_cV1v rfl rfl (Or.inl rfl) rfl rfl rfl (by decide) (FW_46 S hW) ⟨rfl, rfl⟩ rfl (fun K' hK' => l_clear (D := 7) (by decide) rfl (by decide) (FW_46 S hW) rfl (FW_79 S hW) hK') ?_
              refine q_iconst rfl rfl ?_
              refine q_iret rfl rfl trivial ?_
              refine ⟨_, rfl, ?_⟩
              refine q_iceq rfl rfl (fun c97 => ?_) (fun c97 => absurd (by decide) c97)
              refine q_icc4 (z := 6) rfl rfl rfl rfl rfl ?_
              refine q_goto rfl ?_
              refine q_iload rfl rfl rfl ?_
              refine q_aload_nF rfl rfl rfl ?_
              refine q_alenX (x := 6) rfl rfl rfl ?_
              refine q_bipush rfl rfl ?_
              refine q_isub rfl rfl (q_tn (z := 0) rfl ?_)
              refine q_icgt rfl rfl (fun c98 => ?_) (fun c98 => absurd (by decide) c98)
              refine q_iconst rfl rfl ?_
              refine q_iret rfl rfl rfl ?_
              exact hK _ _
          · refine q_bipush rfl rfl ?_
            refine q_iret rfl rfl trivial ?_
            refine ⟨_, rfl, ?_⟩
            refine q_aload_n rfl rfl rfl ?_
            refine q_aload_nF rfl rfl rfl ?_
            refine q_iload rfl rfl rfl ?_
            refine q_iconst rfl rfl ?_
            refine q_iadd rfl rfl (q_tn (z := 1) rfl ?_)
            refine q_ialdX (x := x1) rfl rfl rfl hx1 ?_
            refine q_aload_nF rfl rfl rfl ?_
            refine q_iload rfl rfl rfl ?_
            refine q_iconst rfl rfl ?_
            refine q_iadd rfl rfl (q_tn (z := 2) rfl ?_)
            refine q_ialdX (x := 3) rfl rfl rfl hx2 ?_
            refine q_aload_nF rfl rfl rfl ?_
            refine q_iload rfl rfl rfl ?_
            refine q_iconst rfl rfl ?_
            refine q_iadd rfl rfl (q_tn (z := 3) rfl ?_)
            refine q_ialdX (x := x3) rfl rfl rfl hx3 ?_
            refine q_nV3 rfl rfl (Or.inl rfl) rfl rfl rfl (by decide) (FW_46 S hW) ⟨rfl, rfl⟩ rfl ?_
            change PQ _ _ _ mm_X12_make 0 [.ref 46, .int x1, .int 3, .int x3] [] _ _ 0 0 _
            refine q_aload_n rfl rfl rfl ?_
            refine q_iload_n rfl rfl rfl ?_
            refine q_nV1 rfl rfl (Or.inl rfl) rfl rfl rfl (by decide) (FW_46 S hW) ⟨rfl, rfl⟩ rfl ?_
            change PQ _ _ _ mm_X12_isShelf 0 [.ref 46, .int x1] [] _ _ 0 0 _
            refine q_aload_n rfl rfl rfl ?_
            refine q_iload_n rfl rfl rfl ?_
            refine q_iconst rfl rfl ?_
            refine q_bipush rfl rfl ?_
            refine q_nV3 rfl rfl (Or.inl rfl) rfl rfl rfl (by decide) (FW_46 S hW) ⟨rfl, rfl⟩ rfl ?_
            change PQ _ _ _ mm_X12_in 0 [.ref 46, .int x1, .int 0, .int 7] [] _ _ 0 0 _
            refine q_iload_n rfl rfl rfl ?_
            refine q_iload_n rfl rfl rfl ?_
            refine q_iclt rfl rfl (fun c99 => absurd c99 (i_lt_f (i_nlt c1) rfl)) (fun c99 => ?_)
            refine q_iload_n rfl rfl rfl ?_
            refine q_iload_n rfl rfl rfl ?_
            refine q_icgt rfl rfl (fun c100 => absurd c100 (i_gt_f (i_ltle (i_nle c7) (B := 7) rfl) rfl)) (fun c100 => ?_)
            refine q_iconst rfl rfl ?_
            refine q_goto rfl ?_
            refine q_iret rfl rfl rfl ?_
            refine ⟨_, rfl, ?_⟩
            refine q_iret rfl rfl rfl ?_
            refine ⟨_, rfl, ?_⟩
            refine q_ifeq rfl rfl (fun c101 => absurd c101 (by decide)) (fun c101 => ?_)
            refine q_aload_n rfl rfl rfl ?_
            refine q_iload_n rfl rfl rfl ?_
            refine q_iconst rfl rfl ?_
            refine q_iconst rfl rfl ?_
            refine q_nV3 rfl rfl (Or.inl rfl) rfl rfl rfl (by decide) (FW_46 S hW) ⟨rfl, rfl⟩ rfl ?_
            change PQ _ _ _ mm_X12_in 0 [.ref 46, .int 3, .int 3, .int 4] [] _ _ 0 0 _
            refine q_iload_n rfl rfl rfl ?_
            refine q_iload_n rfl rfl rfl ?_
            refine q_iclt rfl rfl (fun c102 => absurd c102 (by decide)) (fun c102 => ?_)
            refine q_iload_n rfl rfl rfl ?_
            refine q_iload_n rfl rfl rfl ?_
            refine q_icgt rfl rfl (fun c103 => absurd c103 (by decide)) (fun c103 => ?_)
            refine q_iconst rfl rfl ?_
            refine q_goto rfl ?_
            refine q_iret rfl rfl rfl ?_
            refine ⟨_, rfl, ?_⟩
            refine q_ifeq rfl rfl (fun c104 => absurd c104 (by decide)) (fun c104 => ?_)
            refine q_iload_n rfl rfl rfl ?_
            refine q_bipush rfl rfl ?_
            refine q_icle rfl rfl (fun c105 => ?_) (fun c105 => absurd (i_le_t (i_ltle (i_nle c17) (B := (-1)) rfl) rfl) c105)
            refine q_iload_n rfl rfl rfl ?_
            refine q_ifge rfl rfl (fun c106 => absurd c106 (i_ge_f (i_ltle (i_nle c17) (B := (-1)) rfl) rfl)) (fun c106 => ?_)
            refine q_bipush rfl rfl ?_
            refine q_iret rfl rfl trivial ?_
            refine ⟨_, rfl, ?_⟩
            refine q_iceq rfl rfl (fun c107 => ?_) (fun c107 => absurd (by decide) c107)
            refine q_icc4 (z := 6) rfl rfl rfl rfl rfl ?_
            refine q_goto rfl ?_
            refine q_iload rfl rfl rfl ?_
            refine q_aload_nF rfl rfl rfl ?_
            refine q_alenX (x := 6) rfl rfl rfl ?_
            refine q_bipush rfl rfl ?_
            refine q_isub rfl rfl (q_tn (z := 0) rfl ?_)
            refine q_icgt rfl rfl (fun c108 => ?_) (fun c108 => absurd (by decide) c108)
            refine q_iconst rfl rfl ?_
            refine q_iret rfl rfl rfl ?_
            exact hK _ _
        · refine q_iconst rfl rfl ?_
          refine q_iret rfl rfl trivial ?_
          refine ⟨_, rfl, ?_⟩
          refine q_aload_n rfl rfl rfl ?_
          refine q_aload_nF rfl rfl rfl ?_
          refine q_iload rfl rfl rfl ?_
          refine q_iconst rfl rfl ?_
          refine q_iadd rfl rfl (q_tn (z := 1) rfl ?_)
          refine q_ialdX (x := x1) rfl rfl rfl hx1 ?_
          refine q_aload_nF rfl rfl rfl ?_
          refine q_iload rfl rfl rfl ?_
          refine q_iconst rfl rfl ?_
          refine q_iadd rfl rfl (q_tn (z := 2) rfl ?_)
          refine q_ialdX (x := 3) rfl rfl rfl hx2 ?_
          refine q_aload_nF rfl rfl rfl ?_
          refine q_iload rfl rfl rfl ?_
          refine q_iconst rfl rfl ?_
          refine q_iadd rfl rfl (q_tn (z := 3) rfl ?_)
          refine q_ialdX (x := x3) rfl rfl rfl hx3 ?_
          refine q_nV3 rfl rfl (Or.inl rfl) rfl rfl rfl (by decide) (FW_46 S hW) ⟨rfl, rfl⟩ rfl ?_
          change PQ _ _ _ mm_X12_make 0 [.ref 46, .int x1, .int 3, .int x3] [] _ _ 0 0 _
          refine q_aload_n rfl rfl rfl ?_
          refine q_iload_n rfl rfl rfl ?_
          refine q_nV1 rfl rfl (Or.inl rfl) rfl rfl rfl (by decide) (FW_46 S hW) ⟨rfl, rfl⟩ rfl ?_
          change PQ _ _ _ mm_X12_isShelf 0 [.ref 46, .int x1] [] _ _ 0 0 _
          refine q_aload_n rfl rfl rfl ?_
          refine q_iload_n rfl rfl rfl ?_
          refine q_iconst rfl rfl ?_
          refine q_bipush rfl rfl ?_
          refine q_nV3 rfl rfl (Or.inl rfl) rfl rfl rfl (by decide) (FW_46 S hW) ⟨rfl, rfl⟩ rfl ?_
          change PQ _ _ _ mm_X12_in 0 [.ref 46, .int x1, .int 0, .int 7] [] _ _ 0 0 _
          refine q_iload_n rfl rfl rfl ?_
          refine q_iload_n rfl rfl rfl ?_
          refine q_iclt rfl rfl (fun c109 => absurd c109 (i_lt_f (i_nlt c1) rfl)) (fun c109 => ?_)
          refine q_iload_n rfl rfl rfl ?_
          refine q_iload_n rfl rfl rfl ?_
          refine q_icgt rfl rfl (fun c110 => absurd c110 (i_gt_f (i_ltle (i_nle c7) (B := 7) rfl) rfl)) (fun c110 => ?_)
          refine q_iconst rfl rfl ?_
          refine q_goto rfl ?_
          refine q_iret rfl rfl rfl ?_
          refine ⟨_, rfl, ?_⟩
          refine q_iret rfl rfl rfl ?_
          refine ⟨_, rfl, ?_⟩
          refine q_ifeq rfl rfl (fun c111 => absurd c111 (by decide)) (fun c111 => ?_)
          refine q_aload_n rfl rfl rfl ?_
          refine q_iload_n rfl rfl rfl ?_
          refine q_iconst rfl rfl ?_
          refine q_iconst rfl rfl ?_
          refine q_nV3 rfl rfl (Or.inl rfl) rfl rfl rfl (by decide) (FW_46 S hW) ⟨rfl, rfl⟩ rfl ?_
          change PQ _ _ _ mm_X12_in 0 [.ref 46, .int 3, .int 3, .int 4] [] _ _ 0 0 _
          refine q_iload_n rfl rfl rfl ?_
          refine q_iload_n rfl rfl rfl ?_
          refine q_iclt rfl rfl (fun c112 => absurd c112 (by decide)) (fun c112 => ?_)
          refine q_iload_n rfl rfl rfl ?_
          refine q_iload_n rfl rfl rfl ?_
          refine q_icgt rfl rfl (fun c113 => absurd c113 (by decide)) (fun c113 => ?_)
          refine q_iconst rfl rfl ?_
          refine q_goto rfl ?_
          refine q_iret rfl rfl rfl ?_
          refine ⟨_, rfl, ?_⟩
          refine q_ifeq rfl rfl (fun c114 => absurd c114 (by decide)) (fun c114 => ?_)
          refine q_iload_n rfl rfl rfl ?_
          refine q_bipush rfl rfl ?_
          refine q_icle rfl rfl (fun c115 => absurd c115 (i_le_f (i_ltge (i_nle c16) (B := 61) rfl) rfl)) (fun c115 => ?_)
          refine q_iconst rfl rfl ?_
          refine q_iret rfl rfl trivial ?_
          refine ⟨_, rfl, ?_⟩
          refine q_iceq rfl rfl (fun c116 => ?_) (fun c116 => absurd (by decide) c116)
          refine q_icc4 (z := 6) rfl rfl rfl rfl rfl ?_
          refine q_goto rfl ?_
          refine q_iload rfl rfl rfl ?_
          refine q_aload_nF rfl rfl rfl ?_
          refine q_alenX (x := 6) rfl rfl rfl ?_
          refine q_bipush rfl rfl ?_
          refine q_isub rfl rfl (q_tn (z := 0) rfl ?_)
          refine q_icgt rfl rfl (fun c117 => ?_) (fun c117 => absurd (by decide) c117)
          refine q_iconst rfl rfl ?_
          refine q_iret rfl rfl rfl ?_
          exact hK _ _
      · refine q_iload_n rfl rfl rfl ?_
        refine q_iconst rfl rfl ?_
        refine q_icne rfl rfl (fun c118 => ?_) (fun c118 => ?_)
        · subst c118
          refine q_iload_n rfl rfl rfl ?_
          refine q_bipush rfl rfl ?_
          refine q_icle rfl rfl (fun c119 => ?_) (fun c119 => ?_)
          · refine q_iload_n rfl rfl rfl ?_
            refine q_ifge rfl rfl (fun c120 => ?_) (fun c120 => ?_)
            · refine q_aload_n rfl rfl rfl ?_
              refine q_getf rfl rfl (by decide) (FW_0 S hW) rfl ?_
              refine q_iload_n rfl rfl rfl ?_
              refine q_iload_n rfl rfl rfl ?_
              refine q_iconst rfl rfl ?_
              refine q_icne rfl rfl (fun c121 => absurd c121 (by decide)) (fun c121 => ?_)
              refine q_new rfl rfl rfl rfl ?_
              refine q_dupr rfl rfl ?_
              refine q_iload_n rfl rfl rfl ?_
              refine q_nI1vA rfl rfl (Or.inl rfl) rfl rfl ⟨rfl, rfl⟩ rfl rfl rfl ?_
              change PQ _ _ _ mm_X9_init 0 [.ref 82, .int x3] [] _ _ 0 0 _
              refine q_aload_n rfl rfl rfl ?_
              refine q_nI0v rfl rfl (Or.inr rfl) rfl rfl ⟨rfl, rfl⟩ rfl ?_
              change PQ _ _ _ mm_X2_init 0 [.ref 82] [] _ _ 0 0 _
              refine q_aload_n rfl rfl rfl ?_
              refine q_objI rfl rfl rfl ?_
              refine q_ret rfl rfl ?_
              refine ⟨rfl, ?_⟩
              refine q_aload_n rfl rfl rfl ?_
              refine q_iload_n rfl rfl rfl ?_
              refine q_iconst rfl rfl ?_
              refine q_mmax (z := x3) rfl om_sr rfl rfl (if_neg (i_lt_f c120 rfl)) ?_
              refine q_newa rfl rfl (i_lt_f c120 rfl) rfl (i_b8 c120 c119 rfl) rfl (i_bs c120 c119 rfl) ?_
              refine q_putf rfl rfl (by decide) rfl (by decide) rfl trivial ?_
              refine q_ret rfl rfl ?_
              refine ⟨rfl, ?_⟩
              rcases i_en7 (i_nlt c1) (i_ltle (i_nle c7) (B := 7) rfl) with rfl | rfl | rfl | rfl | rfl | rfl | rfl | rfl
              · refine q_aast rfl rfl (by decide) (by decide) (FW_43 S hW) rfl rfl (by decide) ?_
                refine q_iconst rfl rfl ?_
                refine q_iret rfl rfl trivial ?_
                refine ⟨_, rfl, ?_⟩
                refine q_aload_n rfl rfl rfl ?_
                refine q_aload_nF rfl rfl rfl ?_
                refine q_iload rfl rfl rfl ?_
                refine q_iconst rfl rfl ?_
                refine q_iadd rfl rfl (q_tn (z := 1) rfl ?_)
                refine q_ialdX (x := 0) rfl rfl rfl hx1 ?_
                refine q_aload_nF rfl rfl rfl ?_
                refine q_iload rfl rfl rfl ?_
                refine q_iconst rfl rfl ?_
                refine q_iadd rfl rfl (q_tn (z := 2) rfl ?_)
                refine q_ialdX (x := 4) rfl rfl rfl hx2 ?_
                refine q_aload_nF rfl rfl rfl ?_
                refine q_iload rfl rfl rfl ?_
                refine q_iconst rfl rfl ?_
                refine q_iadd rfl rfl (q_tn (z := 3) rfl ?_)
                refine q_ialdX (x := x3) rfl rfl rfl hx3 ?_
                refine q_nV3 rfl rfl (Or.inl rfl) rfl rfl rfl (by decide) (FW_46 S hW) ⟨rfl, rfl⟩ rfl ?_
                change PQ _ _ _ mm_X12_make 0 [.ref 46, .int 0, .int 4, .int x3] [] _ _ 0 0 _
                refine q_aload_n rfl rfl rfl ?_
                refine q_iload_n rfl rfl rfl ?_
                refine q_nV1 rfl rfl (Or.inl rfl) rfl rfl rfl (by decide) (FW_46 S hW) ⟨rfl, rfl⟩ rfl ?_
                change PQ _ _ _ mm_X12_isShelf 0 [.ref 46, .int 0] [] _ _ 0 0 _
                refine q_aload_n rfl rfl rfl ?_
                refine q_iload_n rfl rfl rfl ?_
                refine q_iconst rfl rfl ?_
                refine q_bipush rfl rfl ?_
                refine q_nV3 rfl rfl (Or.inl rfl) rfl rfl rfl (by decide) (FW_46 S hW) ⟨rfl, rfl⟩ rfl ?_
                change PQ _ _ _ mm_X12_in 0 [.ref 46, .int 0, .int 0, .int 7] [] _ _ 0 0 _
                refine q_iload_n rfl rfl rfl ?_
                refine q_iload_n rfl rfl rfl ?_
                refine q_iclt rfl rfl (fun c122 => absurd c122 (by decide)) (fun c122 => ?_)
                refine q_iload_n rfl rfl rfl ?_
                refine q_iload_n rfl rfl rfl ?_
                refine q_icgt rfl rfl (fun c123 => absurd c123 (by decide)) (fun c123 => ?_)
                refine q_iconst rfl rfl ?_
                refine q_goto rfl ?_
                refine q_iret rfl rfl rfl ?_
                refine ⟨_, rfl, ?_⟩
                refine q_iret rfl rfl rfl ?_
                refine ⟨_, rfl, ?_⟩
                refine q_ifeq rfl rfl (fun c124 => absurd c124 (by decide)) (fun c124 => ?_)
                refine q_aload_n rfl rfl rfl ?_
                refine q_iload_n rfl rfl rfl ?_
                refine q_iconst rfl rfl ?_
                refine q_iconst rfl rfl ?_
                refine q_nV3 rfl rfl (Or.inl rfl) rfl rfl rfl (by decide) (FW_46 S hW) ⟨rfl, rfl⟩ rfl ?_
                change PQ _ _ _ mm_X12_in 0 [.ref 46, .int 4, .int 3, .int 4] [] _ _ 0 0 _
                refine q_iload_n rfl rfl rfl ?_
                refine q_iload_n rfl rfl rfl ?_
                refine q_iclt rfl rfl (fun c125 => absurd c125 (by decide)) (fun c125 => ?_)
                refine q_iload_n rfl rfl rfl ?_
                refine q_iload_n rfl rfl rfl ?_
                refine q_icgt rfl rfl (fun c126 => absurd c126 (by decide)) (fun c126 => ?_)
                refine q_iconst rfl rfl ?_
                refine q_goto rfl ?_
                refine q_iret rfl rfl rfl ?_
                refine ⟨_, rfl, ?_⟩
                refine q_ifeq rfl rfl (fun c127 => absurd c127 (by decide)) (fun c127 => ?_)
                refine q_iload_n rfl rfl rfl ?_
                refine q_bipush rfl rfl ?_
                refine q_icle rfl rfl (fun c128 => ?_) (fun c128 => absurd (i_le_t c119 rfl) c128)
                refine q_iload_n rfl rfl rfl ?_
                refine q_ifge rfl rfl (fun c129 => ?_) (fun c129 => absurd (i_ge_t c120 rfl) c129)
                refine q_aload_n rfl rfl rfl ?_
                refine q_getf rfl rfl (by decide) (FW_46 S hW) rfl ?_
                refine q_iload_n rfl rfl rfl ?_
                refine q_iload_n rfl rfl rfl ?_
                refine q_iast rfl rfl (by decide) (FW_75 S hW) (by decide) ?_
                refine q_aload_n rfl rfl rfl ?_
                refine q_getf rfl rfl (by decide) (FW_46 S hW) rfl ?_
                refine q_iload_n rfl rfl rfl ?_
                refine q_iload_n rfl rfl rfl ?_
                refine q_iast rfl rfl (by decide) (FW_78 S hW) (by decide) ?_
                refine q_aload_n rfl rfl rfl ?_
                refine q_iload_n rfl rfl rfl ?_
                refine q_cV1v rfl rfl (Or.inl rfl) rfl rfl rfl (by decide) (FW_46 S hW) ⟨rfl, rfl⟩ rfl (fun K' hK' => l_clear (D := 0) (by decide) rfl (by decide) (FW_46 S hW) rfl (FW_79 S hW) hK') ?_
                refine q_iconst rfl rfl ?_
                refine q_iret rfl rfl trivial ?_
                refine ⟨_, rfl, ?_⟩
                refine q_iceq rfl rfl (fun c130 => ?_) (fun c130 => absurd (by decide) c130)
                refine q_icc4 (z := 6) rfl rfl rfl rfl rfl ?_
                refine q_goto rfl ?_
                refine q_iload rfl rfl rfl ?_
                refine q_aload_nF rfl rfl rfl ?_
                refine q_alenX (x := 6) rfl rfl rfl ?_
                refine q_bipush rfl rfl ?_
                refine q_isub rfl rfl (q_tn (z := 0) rfl ?_)
                refine q_icgt rfl rfl (fun c131 => ?_) (fun c131 => absurd (by decide) c131)
                refine q_iconst rfl rfl ?_
                refine q_iret rfl rfl rfl ?_
                exact hK _ _
              · refine q_aast rfl rfl (by decide) (by decide) (FW_43 S hW) rfl rfl (by decide) ?_
                refine q_iconst rfl rfl ?_
                refine q_iret rfl rfl trivial ?_
                refine ⟨_, rfl, ?_⟩
                refine q_aload_n rfl rfl rfl ?_
                refine q_aload_nF rfl rfl rfl ?_
                refine q_iload rfl rfl rfl ?_
                refine q_iconst rfl rfl ?_
                refine q_iadd rfl rfl (q_tn (z := 1) rfl ?_)
                refine q_ialdX (x := 1) rfl rfl rfl hx1 ?_
                refine q_aload_nF rfl rfl rfl ?_
                refine q_iload rfl rfl rfl ?_
                refine q_iconst rfl rfl ?_
                refine q_iadd rfl rfl (q_tn (z := 2) rfl ?_)
                refine q_ialdX (x := 4) rfl rfl rfl hx2 ?_
                refine q_aload_nF rfl rfl rfl ?_
                refine q_iload rfl rfl rfl ?_
                refine q_iconst rfl rfl ?_
                refine q_iadd rfl rfl (q_tn (z := 3) rfl ?_)
                refine q_ialdX (x := x3) rfl rfl rfl hx3 ?_
                refine q_nV3 rfl rfl (Or.inl rfl) rfl rfl rfl (by decide) (FW_46 S hW) ⟨rfl, rfl⟩ rfl ?_
                change PQ _ _ _ mm_X12_make 0 [.ref 46, .int 1, .int 4, .int x3] [] _ _ 0 0 _
                refine q_aload_n rfl rfl rfl ?_
                refine q_iload_n rfl rfl rfl ?_
                refine q_nV1 rfl rfl (Or.inl rfl) rfl rfl rfl (by decide) (FW_46 S hW) ⟨rfl, rfl⟩ rfl ?_
                change PQ _ _ _ mm_X12_isShelf 0 [.ref 46, .int 1] [] _ _ 0 0 _
                refine q_aload_n rfl rfl rfl ?_
                refine q_iload_n rfl rfl rfl ?_
                refine q_iconst rfl rfl ?_
                refine q_bipush rfl rfl ?_
                refine q_nV3 rfl rfl (Or.inl rfl) rfl rfl rfl (by decide) (FW_46 S hW) ⟨rfl, rfl⟩ rfl ?_
                change PQ _ _ _ mm_X12_in 0 [.ref 46, .int 1, .int 0, .int 7] [] _ _ 0 0 _
                refine q_iload_n rfl rfl rfl ?_
                refine q_iload_n rfl rfl rfl ?_
                refine q_iclt rfl rfl (fun c132 => absurd c132 (by decide)) (fun c132 => ?_)
                refine q_iload_n rfl rfl rfl ?_
                refine q_iload_n rfl rfl rfl ?_
                refine q_icgt rfl rfl (fun c133 => absurd c133 (by decide)) (fun c133 => ?_)
                refine q_iconst rfl rfl ?_
                refine q_goto rfl ?_
                refine q_iret rfl rfl rfl ?_
                refine ⟨_, rfl, ?_⟩
                refine q_iret rfl rfl rfl ?_
                refine ⟨_, rfl, ?_⟩
                refine q_ifeq rfl rfl (fun c134 => absurd c134 (by decide)) (fun c134 => ?_)
                refine q_aload_n rfl rfl rfl ?_
                refine q_iload_n rfl rfl rfl ?_
                refine q_iconst rfl rfl ?_
                refine q_iconst rfl rfl ?_
                refine q_nV3 rfl rfl (Or.inl rfl) rfl rfl rfl (by decide) (FW_46 S hW) ⟨rfl, rfl⟩ rfl ?_
                change PQ _ _ _ mm_X12_in 0 [.ref 46, .int 4, .int 3, .int 4] [] _ _ 0 0 _
                refine q_iload_n rfl rfl rfl ?_
                refine q_iload_n rfl rfl rfl ?_
                refine q_iclt rfl rfl (fun c135 => absurd c135 (by decide)) (fun c135 => ?_)
                refine q_iload_n rfl rfl rfl ?_
                refine q_iload_n rfl rfl rfl ?_
                refine q_icgt rfl rfl (fun c136 => absurd c136 (by decide)) (fun c136 => ?_)
                refine q_iconst rfl rfl ?_
                refine q_goto rfl ?_
                refine q_iret rfl rfl rfl ?_
                refine ⟨_, rfl, ?_⟩
                refine q_ifeq rfl rfl (fun c137 => absurd c137 (by decide)) (fun c137 => ?_)
                refine q_iload_n rfl rfl rfl ?_
                refine q_bipush rfl rfl ?_
                refine q_icle rfl rfl (fun c138 => ?_) (fun c138 => absurd (i_le_t c119 rfl) c138)
                refine q_iload_n rfl rfl rfl ?_
                refine q_ifge rfl rfl (fun c139 => ?_) (fun c139 => absurd (i_ge_t c120 rfl) c139)
                refine q_aload_n rfl rfl rfl ?_
                refine q_getf rfl rfl (by decide) (FW_46 S hW) rfl ?_
                refine q_iload_n rfl rfl rfl ?_
                refine q_iload_n rfl rfl rfl ?_
                refine q_iast rfl rfl (by decide) (FW_75 S hW) (by decide) ?_
                refine q_aload_n rfl rfl rfl ?_
                refine q_getf rfl rfl (by decide) (FW_46 S hW) rfl ?_
                refine q_iload_n rfl rfl rfl ?_
                refine q_iload_n rfl rfl rfl ?_
                refine q_iast rfl rfl (by decide) (FW_78 S hW) (by decide) ?_
                refine q_aload_n rfl rfl rfl ?_
                refine q_iload_n rfl rfl rfl ?_
                refine q_cV1v rfl rfl (Or.inl rfl) rfl rfl rfl (by decide) (FW_46 S hW) ⟨rfl, rfl⟩ rfl (fun K' hK' => l_clear (D := 1) (by decide) rfl (by decide) (FW_46 S hW) rfl (FW_79 S hW) hK') ?_
                refine q_iconst rfl rfl ?_
                refine q_iret rfl rfl trivial ?_
                refine ⟨_, rfl, ?_⟩
                refine q_iceq rfl rfl (fun c140 => ?_) (fun c140 => absurd (by decide) c140)
                refine q_icc4 (z := 6) rfl rfl rfl rfl rfl ?_
                refine q_goto rfl ?_
                refine q_iload rfl rfl rfl ?_
                refine q_aload_nF rfl rfl rfl ?_
                refine q_alenX (x := 6) rfl rfl rfl ?_
                refine q_bipush rfl rfl ?_
                refine q_isub rfl rfl (q_tn (z := 0) rfl ?_)
                refine q_icgt rfl rfl (fun c141 => ?_) (fun c141 => absurd (by decide) c141)
                refine q_iconst rfl rfl ?_
                refine q_iret rfl rfl rfl ?_
                exact hK _ _
              · refine q_aast rfl rfl (by decide) (by decide) (FW_43 S hW) rfl rfl (by decide) ?_
                refine q_iconst rfl rfl ?_
                refine q_iret rfl rfl trivial ?_
                refine ⟨_, rfl, ?_⟩
                refine q_aload_n rfl rfl rfl ?_
                refine q_aload_nF rfl rfl rfl ?_
                refine q_iload rfl rfl rfl ?_
                refine q_iconst rfl rfl ?_
                refine q_iadd rfl rfl (q_tn (z := 1) rfl ?_)
                refine q_ialdX (x := 2) rfl rfl rfl hx1 ?_
                refine q_aload_nF rfl rfl rfl ?_
                refine q_iload rfl rfl rfl ?_
                refine q_iconst rfl rfl ?_
                refine q_iadd rfl rfl (q_tn (z := 2) rfl ?_)
                refine q_ialdX (x := 4) rfl rfl rfl hx2 ?_
                refine q_aload_nF rfl rfl rfl ?_
                refine q_iload rfl rfl rfl ?_
                refine q_iconst rfl rfl ?_
                refine q_iadd rfl rfl (q_tn (z := 3) rfl ?_)
                refine q_ialdX (x := x3) rfl rfl rfl hx3 ?_
                refine q_nV3 rfl rfl (Or.inl rfl) rfl rfl rfl (by decide) (FW_46 S hW) ⟨rfl, rfl⟩ rfl ?_
                change PQ _ _ _ mm_X12_make 0 [.ref 46, .int 2, .int 4, .int x3] [] _ _ 0 0 _
                refine q_aload_n rfl rfl rfl ?_
                refine q_iload_n rfl rfl rfl ?_
                refine q_nV1 rfl rfl (Or.inl rfl) rfl rfl rfl (by decide) (FW_46 S hW) ⟨rfl, rfl⟩ rfl ?_
                change PQ _ _ _ mm_X12_isShelf 0 [.ref 46, .int 2] [] _ _ 0 0 _
                refine q_aload_n rfl rfl rfl ?_
                refine q_iload_n rfl rfl rfl ?_
                refine q_iconst rfl rfl ?_
                refine q_bipush rfl rfl ?_
                refine q_nV3 rfl rfl (Or.inl rfl) rfl rfl rfl (by decide) (FW_46 S hW) ⟨rfl, rfl⟩ rfl ?_
                change PQ _ _ _ mm_X12_in 0 [.ref 46, .int 2, .int 0, .int 7] [] _ _ 0 0 _
                refine q_iload_n rfl rfl rfl ?_
                refine q_iload_n rfl rfl rfl ?_
                refine q_iclt rfl rfl (fun c142 => absurd c142 (by decide)) (fun c142 => ?_)
                refine q_iload_n rfl rfl rfl ?_
                refine q_iload_n rfl rfl rfl ?_
                refine q_icgt rfl rfl (fun c143 => absurd c143 (by decide)) (fun c143 => ?_)
                refine q_iconst rfl rfl ?_
                refine q_goto rfl ?_
                refine q_iret rfl rfl rfl ?_
                refine ⟨_, rfl, ?_⟩
                refine q_iret rfl rfl rfl ?_
                refine ⟨_, rfl, ?_⟩
                refine q_ifeq rfl rfl (fun c144 => absurd c144 (by decide)) (fun c144 => ?_)
                refine q_aload_n rfl rfl rfl ?_
                refine q_iload_n rfl rfl rfl ?_
                refine q_iconst rfl rfl ?_
                refine q_iconst rfl rfl ?_
                refine q_nV3 rfl rfl (Or.inl rfl) rfl rfl rfl (by decide) (FW_46 S hW) ⟨rfl, rfl⟩ rfl ?_
                change PQ _ _ _ mm_X12_in 0 [.ref 46, .int 4, .int 3, .int 4] [] _ _ 0 0 _
                refine q_iload_n rfl rfl rfl ?_
                refine q_iload_n rfl rfl rfl ?_
                refine q_iclt rfl rfl (fun c145 => absurd c145 (by decide)) (fun c145 => ?_)
                refine q_iload_n rfl rfl rfl ?_
                refine q_iload_n rfl rfl rfl ?_
                refine q_icgt rfl rfl (fun c146 => absurd c146 (by decide)) (fun c146 => ?_)
                refine q_iconst rfl rfl ?_
                refine q_goto rfl ?_
                refine q_iret rfl rfl rfl ?_
                refine ⟨_, rfl, ?_⟩
                refine q_ifeq rfl rfl (fun c147 => absurd c147 (by decide)) (fun c147 => ?_)
                refine q_iload_n rfl rfl rfl ?_
                refine q_bipush rfl rfl ?_
                refine q_icle rfl rfl (fun c148 => ?_) (fun c148 => absurd (i_le_t c119 rfl) c148)
                refine q_iload_n rfl rfl rfl ?_
                refine q_ifge rfl rfl (fun c149 => ?_) (fun c149 => absurd (i_ge_t c120 rfl) c149)
                refine q_aload_n rfl rfl rfl ?_
                refine q_getf rfl rfl (by decide) (FW_46 S hW) rfl ?_
                refine q_iload_n rfl rfl rfl ?_
                refine q_iload_n rfl rfl rfl ?_
                refine q_iast rfl rfl (by decide) (FW_75 S hW) (by decide) ?_
                refine q_aload_n rfl rfl rfl ?_
                refine q_getf rfl rfl (by decide) (FW_46 S hW) rfl ?_
                refine q_iload_n rfl rfl rfl ?_
                refine q_iload_n rfl rfl rfl ?_
                refine q_iast rfl rfl (by decide) (FW_78 S hW) (by decide) ?_
                refine q_aload_n rfl rfl rfl ?_
                refine q_iload_n rfl rfl rfl ?_
                refine q_cV1v rfl rfl (Or.inl rfl) rfl rfl rfl (by decide) (FW_46 S hW) ⟨rfl, rfl⟩ rfl (fun K' hK' => l_clear (D := 2) (by decide) rfl (by decide) (FW_46 S hW) rfl (FW_79 S hW) hK') ?_
                refine q_iconst rfl rfl ?_
                refine q_iret rfl rfl trivial ?_
                refine ⟨_, rfl, ?_⟩
                refine q_iceq rfl rfl (fun c150 => ?_) (fun c150 => absurd (by decide) c150)
                refine q_icc4 (z := 6) rfl rfl rfl rfl rfl ?_
                refine q_goto rfl ?_
                refine q_iload rfl rfl rfl ?_
                refine q_aload_nF rfl rfl rfl ?_
                refine q_alenX (x := 6) rfl rfl rfl ?_
                refine q_bipush rfl rfl ?_
                refine q_isub rfl rfl (q_tn (z := 0) rfl ?_)
                refine q_icgt rfl rfl (fun c151 => ?_) (fun c151 => absurd (by decide) c151)
                refine q_iconst rfl rfl ?_
                refine q_iret rfl rfl rfl ?_
                exact hK _ _
              · refine q_aast rfl rfl (by decide) (by decide) (FW_43 S hW) rfl rfl (by decide) ?_
                refine q_iconst rfl rfl ?_
                refine q_iret rfl rfl trivial ?_
                refine ⟨_, rfl, ?_⟩
                refine q_aload_n rfl rfl rfl ?_
                refine q_aload_nF rfl rfl rfl ?_
                refine q_iload rfl rfl rfl ?_
                refine q_iconst rfl rfl ?_
                refine q_iadd rfl rfl (q_tn (z := 1) rfl ?_)
                refine q_ialdX (x := 3) rfl rfl rfl hx1 ?_
                refine q_aload_nF rfl rfl rfl ?_
                refine q_iload rfl rfl rfl ?_
                refine q_iconst rfl rfl ?_
                refine q_iadd rfl rfl (q_tn (z := 2) rfl ?_)
                refine q_ialdX (x := 4) rfl rfl rfl hx2 ?_
                refine q_aload_nF rfl rfl rfl ?_
                refine q_iload rfl rfl rfl ?_
                refine q_iconst rfl rfl ?_
                refine q_iadd rfl rfl (q_tn (z := 3) rfl ?_)
                refine q_ialdX (x := x3) rfl rfl rfl hx3 ?_
                refine q_nV3 rfl rfl (Or.inl rfl) rfl rfl rfl (by decide) (FW_46 S hW) ⟨rfl, rfl⟩ rfl ?_
                change PQ _ _ _ mm_X12_make 0 [.ref 46, .int 3, .int 4, .int x3] [] _ _ 0 0 _
                refine q_aload_n rfl rfl rfl ?_
                refine q_iload_n rfl rfl rfl ?_
                refine q_nV1 rfl rfl (Or.inl rfl) rfl rfl rfl (by decide) (FW_46 S hW) ⟨rfl, rfl⟩ rfl ?_
                change PQ _ _ _ mm_X12_isShelf 0 [.ref 46, .int 3] [] _ _ 0 0 _
                refine q_aload_n rfl rfl rfl ?_
                refine q_iload_n rfl rfl rfl ?_
                refine q_iconst rfl rfl ?_
                refine q_bipush rfl rfl ?_
                refine q_nV3 rfl rfl (Or.inl rfl) rfl rfl rfl (by decide) (FW_46 S hW) ⟨rfl, rfl⟩ rfl ?_
                change PQ _ _ _ mm_X12_in 0 [.ref 46, .int 3, .int 0, .int 7] [] _ _ 0 0 _
                refine q_iload_n rfl rfl rfl ?_
                refine q_iload_n rfl rfl rfl ?_
                refine q_iclt rfl rfl (fun c152 => absurd c152 (by decide)) (fun c152 => ?_)
                refine q_iload_n rfl rfl rfl ?_
                refine q_iload_n rfl rfl rfl ?_
                refine q_icgt rfl rfl (fun c153 => absurd c153 (by decide)) (fun c153 => ?_)
                refine q_iconst rfl rfl ?_
                refine q_goto rfl ?_
                refine q_iret rfl rfl rfl ?_
                refine ⟨_, rfl, ?_⟩
                refine q_iret rfl rfl rfl ?_
                refine ⟨_, rfl, ?_⟩
                refine q_ifeq rfl rfl (fun c154 => absurd c154 (by decide)) (fun c154 => ?_)
                refine q_aload_n rfl rfl rfl ?_
                refine q_iload_n rfl rfl rfl ?_
                refine q_iconst rfl rfl ?_
                refine q_iconst rfl rfl ?_
                refine q_nV3 rfl rfl (Or.inl rfl) rfl rfl rfl (by decide) (FW_46 S hW) ⟨rfl, rfl⟩ rfl ?_
                change PQ _ _ _ mm_X12_in 0 [.ref 46, .int 4, .int 3, .int 4] [] _ _ 0 0 _
                refine q_iload_n rfl rfl rfl ?_
                refine q_iload_n rfl rfl rfl ?_
                refine q_iclt rfl rfl (fun c155 => absurd c155 (by decide)) (fun c155 => ?_)
                refine q_iload_n rfl rfl rfl ?_
                refine q_iload_n rfl rfl rfl ?_
                refine q_icgt rfl rfl (fun c156 => absurd c156 (by decide)) (fun c156 => ?_)
                refine q_iconst rfl rfl ?_
                refine q_goto rfl ?_
                refine q_iret rfl rfl rfl ?_
                refine ⟨_, rfl, ?_⟩
                refine q_ifeq rfl rfl (fun c157 => absurd c157 (by decide)) (fun c157 => ?_)
                refine q_iload_n rfl rfl rfl ?_
                refine q_bipush rfl rfl ?_
                refine q_icle rfl rfl (fun c158 => ?_) (fun c158 => absurd (i_le_t c119 rfl) c158)
                refine q_iload_n rfl rfl rfl ?_
                refine q_ifge rfl rfl (fun c159 => ?_) (fun c159 => absurd (i_ge_t c120 rfl) c159)
                refine q_aload_n rfl rfl rfl ?_
                refine q_getf rfl rfl (by decide) (FW_46 S hW) rfl ?_
                refine q_iload_n rfl rfl rfl ?_
                refine q_iload_n rfl rfl rfl ?_
                refine q_iast rfl rfl (by decide) (FW_75 S hW) (by decide) ?_
                refine q_aload_n rfl rfl rfl ?_
                refine q_getf rfl rfl (by decide) (FW_46 S hW) rfl ?_
                refine q_iload_n rfl rfl rfl ?_
                refine q_iload_n rfl rfl rfl ?_
                refine q_iast rfl rfl (by decide) (FW_78 S hW) (by decide) ?_
                refine q_aload_n rfl rfl rfl ?_
                refine q_iload_n rfl rfl rfl ?_
                refine q_cV1v rfl rfl (Or.inl rfl) rfl rfl rfl (by decide) (FW_46 S hW) ⟨rfl, rfl⟩ rfl (fun K' hK' => l_clear (D := 3) (by decide) rfl (by decide) (FW_46 S hW) rfl (FW_79 S hW) hK') ?_
                refine q_iconst rfl rfl ?_
                refine q_iret rfl rfl trivial ?_
                refine ⟨_, rfl, ?_⟩
                refine q_iceq rfl rfl (fun c160 => ?_) (fun c160 => absurd (by decide) c160)
                refine q_icc4 (z := 6) rfl rfl rfl rfl rfl ?_
                refine q_goto rfl ?_
                refine q_iload rfl rfl rfl ?_
                refine q_aload_nF rfl rfl rfl ?_
                refine q_alenX (x := 6) rfl rfl rfl ?_
                refine q_bipush rfl rfl ?_
                refine q_isub rfl rfl (q_tn (z := 0) rfl ?_)
                refine q_icgt rfl rfl (fun c161 => ?_) (fun c161 => absurd (by decide) c161)
                refine q_iconst rfl rfl ?_
                refine q_iret rfl rfl rfl ?_
                exact hK _ _
              · refine q_aast rfl rfl (by decide) (by decide) (FW_43 S hW) rfl rfl (by decide) ?_
                refine q_iconst rfl rfl ?_
                refine q_iret rfl rfl trivial ?_
                refine ⟨_, rfl, ?_⟩
                refine q_aload_n rfl rfl rfl ?_
                refine q_aload_nF rfl rfl rfl ?_
                refine q_iload rfl rfl rfl ?_
                refine q_iconst rfl rfl ?_
                refine q_iadd rfl rfl (q_tn (z := 1) rfl ?_)
                refine q_ialdX (x := 4) rfl rfl rfl hx1 ?_
                refine q_aload_nF rfl rfl rfl ?_
                refine q_iload rfl rfl rfl ?_
                refine q_iconst rfl rfl ?_
                refine q_iadd rfl rfl (q_tn (z := 2) rfl ?_)
                refine q_ialdX (x := 4) rfl rfl rfl hx2 ?_
                refine q_aload_nF rfl rfl rfl ?_
                refine q_iload rfl rfl rfl ?_
                refine q_iconst rfl rfl ?_
                refine q_iadd rfl rfl (q_tn (z := 3) rfl ?_)
                refine q_ialdX (x := x3) rfl rfl rfl hx3 ?_
                refine q_nV3 rfl rfl (Or.inl rfl) rfl rfl rfl (by decide) (FW_46 S hW) ⟨rfl, rfl⟩ rfl ?_
                change PQ _ _ _ mm_X12_make 0 [.ref 46, .int 4, .int 4, .int x3] [] _ _ 0 0 _
                refine q_aload_n rfl rfl rfl ?_
                refine q_iload_n rfl rfl rfl ?_
                refine q_nV1 rfl rfl (Or.inl rfl) rfl rfl rfl (by decide) (FW_46 S hW) ⟨rfl, rfl⟩ rfl ?_
                change PQ _ _ _ mm_X12_isShelf 0 [.ref 46, .int 4] [] _ _ 0 0 _
                refine q_aload_n rfl rfl rfl ?_
                refine q_iload_n rfl rfl rfl ?_
                refine q_iconst rfl rfl ?_
                refine q_bipush rfl rfl ?_
                refine q_nV3 rfl rfl (Or.inl rfl) rfl rfl rfl (by decide) (FW_46 S hW) ⟨rfl, rfl⟩ rfl ?_
                change PQ _ _ _ mm_X12_in 0 [.ref 46, .int 4, .int 0, .int 7] [] _ _ 0 0 _
                refine q_iload_n rfl rfl rfl ?_
                refine q_iload_n rfl rfl rfl ?_
                refine q_iclt rfl rfl (fun c162 => absurd c162 (by decide)) (fun c162 => ?_)
                refine q_iload_n rfl rfl rfl ?_
                refine q_iload_n rfl rfl rfl ?_
                refine q_icgt rfl rfl (fun c163 => absurd c163 (by decide)) (fun c163 => ?_)
                refine q_iconst rfl rfl ?_
                refine q_goto rfl ?_
                refine q_iret rfl rfl rfl ?_
                refine ⟨_, rfl, ?_⟩
                refine q_iret rfl rfl rfl ?_
                refine ⟨_, rfl, ?_⟩
                refine q_ifeq rfl rfl (fun c164 => absurd c164 (by decide)) (fun c164 => ?_)
                refine q_aload_n rfl rfl rfl ?_
                refine q_iload_n rfl rfl rfl ?_
                refine q_iconst rfl rfl ?_
                refine q_iconst rfl rfl ?_
                refine q_nV3 rfl rfl (Or.inl rfl) rfl rfl rfl (by decide) (FW_46 S hW) ⟨rfl, rfl⟩ rfl ?_
                change PQ _ _ _ mm_X12_in 0 [.ref 46, .int 4, .int 3, .int 4] [] _ _ 0 0 _
                refine q_iload_n rfl rfl rfl ?_
                refine q_iload_n rfl rfl rfl ?_
                refine q_iclt rfl rfl (fun c165 => absurd c165 (by decide)) (fun c165 => ?_)
                refine q_iload_n rfl rfl rfl ?_
                refine q_iload_n rfl rfl rfl ?_
                refine q_icgt rfl rfl (fun c166 => absurd c166 (by decide)) (fun c166 => ?_)
                refine q_iconst rfl rfl ?_
                refine q_goto rfl ?_
                refine q_iret rfl rfl rfl ?_
                refine ⟨_, rfl, ?_⟩
                refine q_ifeq rfl rfl (fun c167 => absurd c167 (by decide)) (fun c167 => ?_)
                refine q_iload_n rfl rfl rfl ?_
                refine q_bipush rfl rfl ?_
                refine q_icle rfl rfl (fun c168 => ?_) (fun c168 => absurd (i_le_t c119 rfl) c168)
                refine q_iload_n rfl rfl rfl ?_
                refine q_ifge rfl rfl (fun c169 => ?_) (fun c169 => absurd (i_ge_t c120 rfl) c169)
                refine q_aload_n rfl rfl rfl ?_
                refine q_getf rfl rfl (by decide) (FW_46 S hW) rfl ?_
                refine q_iload_n rfl rfl rfl ?_
                refine q_iload_n rfl rfl rfl ?_
                refine q_iast rfl rfl (by decide) (FW_75 S hW) (by decide) ?_
                refine q_aload_n rfl rfl rfl ?_
                refine q_getf rfl rfl (by decide) (FW_46 S hW) rfl ?_
                refine q_iload_n rfl rfl rfl ?_
                refine q_iload_n rfl rfl rfl ?_
                refine q_iast rfl rfl (by decide) (FW_78 S hW) (by decide) ?_
                refine q_aload_n rfl rfl rfl ?_
                refine q_iload_n rfl rfl rfl ?_
                refine q_cV1v rfl rfl (Or.inl rfl) rfl rfl rfl (by decide) (FW_46 S hW) ⟨rfl, rfl⟩ rfl (fun K' hK' => l_clear (D := 4) (by decide) rfl (by decide) (FW_46 S hW) rfl (FW_79 S hW) hK') ?_
                refine q_iconst rfl rfl ?_
                refine q_iret rfl rfl trivial ?_
                refine ⟨_, rfl, ?_⟩
                refine q_iceq rfl rfl (fun c170 => ?_) (fun c170 => absurd (by decide) c170)
                refine q_icc4 (z := 6) rfl rfl rfl rfl rfl ?_
                refine q_goto rfl ?_
                refine q_iload rfl rfl rfl ?_
                refine q_aload_nF rfl rfl rfl ?_
                refine q_alenX (x := 6) rfl rfl rfl ?_
                refine q_bipush rfl rfl ?_
                refine q_isub rfl rfl (q_tn (z := 0) rfl ?_)
                refine q_icgt rfl rfl (fun c171 => ?_) (fun c171 => absurd (by decide) c171)
                refine q_iconst rfl rfl ?_
                refine q_iret rfl rfl rfl ?_
                exact hK _ _
              · refine q_aast rfl rfl (by decide) (by decide) (FW_43 S hW) rfl rfl (by decide) ?_
                refine q_iconst rfl rfl ?_
                refine q_iret rfl rfl trivial ?_
                refine ⟨_, rfl, ?_⟩
                refine q_aload_n rfl rfl rfl ?_
                refine q_aload_nF rfl rfl rfl ?_
                refine q_iload rfl rfl rfl ?_
                refine q_iconst rfl rfl ?_
                refine q_iadd rfl rfl (q_tn (z := 1) rfl ?_)
                refine q_ialdX (x := 5) rfl rfl rfl hx1 ?_
                refine q_aload_nF rfl rfl rfl ?_
                refine q_iload rfl rfl rfl ?_
                refine q_iconst rfl rfl ?_
                refine q_iadd rfl rfl (q_tn (z := 2) rfl ?_)
                refine q_ialdX (x := 4) rfl rfl rfl hx2 ?_
                refine q_aload_nF rfl rfl rfl ?_
                refine q_iload rfl rfl rfl ?_
                refine q_iconst rfl rfl ?_
                refine q_iadd rfl rfl (q_tn (z := 3) rfl ?_)
                refine q_ialdX (x := x3) rfl rfl rfl hx3 ?_
                refine q_nV3 rfl rfl (Or.inl rfl) rfl rfl rfl (by decide) (FW_46 S hW) ⟨rfl, rfl⟩ rfl ?_
                change PQ _ _ _ mm_X12_make 0 [.ref 46, .int 5, .int 4, .int x3] [] _ _ 0 0 _
                refine q_aload_n rfl rfl rfl ?_
                refine q_iload_n rfl rfl rfl ?_
                refine q_nV1 rfl rfl (Or.inl rfl) rfl rfl rfl (by decide) (FW_46 S hW) ⟨rfl, rfl⟩ rfl ?_
                change PQ _ _ _ mm_X12_isShelf 0 [.ref 46, .int 5] [] _ _ 0 0 _
                refine q_aload_n rfl rfl rfl ?_
                refine q_iload_n rfl rfl rfl ?_
                refine q_iconst rfl rfl ?_
                refine q_bipush rfl rfl ?_
                refine q_nV3 rfl rfl (Or.inl rfl) rfl rfl rfl (by decide) (FW_46 S hW) ⟨rfl, rfl⟩ rfl ?_
                change PQ _ _ _ mm_X12_in 0 [.ref 46, .int 5, .int 0, .int 7] [] _ _ 0 0 _
                refine q_iload_n rfl rfl rfl ?_
                refine q_iload_n rfl rfl rfl ?_
                refine q_iclt rfl rfl (fun c172 => absurd c172 (by decide)) (fun c172 => ?_)
                refine q_iload_n rfl rfl rfl ?_
                refine q_iload_n rfl rfl rfl ?_
                refine q_icgt rfl rfl (fun c173 => absurd c173 (by decide)) (fun c173 => ?_)
                refine q_iconst rfl rfl ?_
                refine q_goto rfl ?_
                refine q_iret rfl rfl rfl ?_
                refine ⟨_, rfl, ?_⟩
                refine q_iret rfl rfl rfl ?_
                refine ⟨_, rfl, ?_⟩
                refine q_ifeq rfl rfl (fun c174 => absurd c174 (by decide)) (fun c174 => ?_)
                refine q_aload_n rfl rfl rfl ?_
                refine q_iload_n rfl rfl rfl ?_
                refine q_iconst rfl rfl ?_
                refine q_iconst rfl rfl ?_
                refine q_nV3 rfl rfl (Or.inl rfl) rfl rfl rfl (by decide) (FW_46 S hW) ⟨rfl, rfl⟩ rfl ?_
                change PQ _ _ _ mm_X12_in 0 [.ref 46, .int 4, .int 3, .int 4] [] _ _ 0 0 _
                refine q_iload_n rfl rfl rfl ?_
                refine q_iload_n rfl rfl rfl ?_
                refine q_iclt rfl rfl (fun c175 => absurd c175 (by decide)) (fun c175 => ?_)
                refine q_iload_n rfl rfl rfl ?_
                refine q_iload_n rfl rfl rfl ?_
                refine q_icgt rfl rfl (fun c176 => absurd c176 (by decide)) (fun c176 => ?_)
                refine q_iconst rfl rfl ?_
                refine q_goto rfl ?_
                refine q_iret rfl rfl rfl ?_
                refine ⟨_, rfl, ?_⟩
                refine q_ifeq rfl rfl (fun c177 => absurd c177 (by decide)) (fun c177 => ?_)
                refine q_iload_n rfl rfl rfl ?_
                refine q_bipush rfl rfl ?_
                refine q_icle rfl rfl (fun c178 => ?_) (fun c178 => absurd (i_le_t c119 rfl) c178)
                refine q_iload_n rfl rfl rfl ?_
                refine q_ifge rfl rfl (fun c179 => ?_) (fun c179 => absurd (i_ge_t c120 rfl) c179)
                refine q_aload_n rfl rfl rfl ?_
                refine q_getf rfl rfl (by decide) (FW_46 S hW) rfl ?_
                refine q_iload_n rfl rfl rfl ?_
                refine q_iload_n rfl rfl rfl ?_
                refine q_iast rfl rfl (by decide) (FW_75 S hW) (by decide) ?_
                refine q_aload_n rfl rfl rfl ?_
                refine q_getf rfl rfl (by decide) (FW_46 S hW) rfl ?_
                refine q_iload_n rfl rfl rfl ?_
                refine q_iload_n rfl rfl rfl ?_
                refine q_iast rfl rfl (by decide) (FW_78 S hW) (by decide) ?_
                refine q_aload_n rfl rfl rfl ?_
                refine q_iload_n rfl rfl rfl ?_
                refine q_cV1v rfl rfl (Or.inl rfl) rfl rfl rfl (by decide) (FW_46 S hW) ⟨rfl, rfl⟩ rfl (fun K' hK' => l_clear (D := 5) (by decide) rfl (by decide) (FW_46 S hW) rfl (FW_79 S hW) hK') ?_
                refine q_iconst rfl rfl ?_
                refine q_iret rfl rfl trivial ?_
                refine ⟨_, rfl, ?_⟩
                refine q_iceq rfl rfl (fun c180 => ?_) (fun c180 => absurd (by decide) c180)
                refine q_icc4 (z := 6) rfl rfl rfl rfl rfl ?_
                refine q_goto rfl ?_
                refine q_iload rfl rfl rfl ?_
                refine q_aload_nF rfl rfl rfl ?_
                refine q_alenX (x := 6) rfl rfl rfl ?_
                refine q_bipush rfl rfl ?_
                refine q_isub rfl rfl (q_tn (z := 0) rfl ?_)
                refine q_icgt rfl rfl (fun c181 => ?_) (fun c181 => absurd (by decide) c181)
                refine q_iconst rfl rfl ?_
                refine q_iret rfl rfl rfl ?_
                exact hK _ _
              · refine q_aast rfl rfl (by decide) (by decide) (FW_43 S hW) rfl rfl (by decide) ?_
                refine q_iconst rfl rfl ?_
                refine q_iret rfl rfl trivial ?_
                refine ⟨_, rfl, ?_⟩
                refine q_aload_n rfl rfl rfl ?_
                refine q_aload_nF rfl rfl rfl ?_
                refine q_iload rfl rfl rfl ?_
                refine q_iconst rfl rfl ?_
                refine q_iadd rfl rfl (q_tn (z := 1) rfl ?_)
                refine q_ialdX (x := 6) rfl rfl rfl hx1 ?_
                refine q_aload_nF rfl rfl rfl ?_
                refine q_iload rfl rfl rfl ?_
                refine q_iconst rfl rfl ?_
                refine q_iadd rfl rfl (q_tn (z := 2) rfl ?_)
                refine q_ialdX (x := 4) rfl rfl rfl hx2 ?_
                refine q_aload_nF rfl rfl rfl ?_
                refine q_iload rfl rfl rfl ?_
                refine q_iconst rfl rfl ?_
                refine q_iadd rfl rfl (q_tn (z := 3) rfl ?_)
                refine q_ialdX (x := x3) rfl rfl rfl hx3 ?_
                refine q_nV3 rfl rfl (Or.inl rfl) rfl rfl rfl (by decide) (FW_46 S hW) ⟨rfl, rfl⟩ rfl ?_
                change PQ _ _ _ mm_X12_make 0 [.ref 46, .int 6, .int 4, .int x3] [] _ _ 0 0 _
                refine q_aload_n rfl rfl rfl ?_
                refine q_iload_n rfl rfl rfl ?_
                refine q_nV1 rfl rfl (Or.inl rfl) rfl rfl rfl (by decide) (FW_46 S hW) ⟨rfl, rfl⟩ rfl ?_
                change PQ _ _ _ mm_X12_isShelf 0 [.ref 46, .int 6] [] _ _ 0 0 _
                refine q_aload_n rfl rfl rfl ?_
                refine q_iload_n rfl rfl rfl ?_
                refine q_iconst rfl rfl ?_
                refine q_bipush rfl rfl ?_
                refine q_nV3 rfl rfl (Or.inl rfl) rfl rfl rfl (by decide) (FW_46 S hW) ⟨rfl, rfl⟩ rfl ?_
                change PQ _ _ _ mm_X12_in 0 [.ref 46, .int 6, .int 0, .int 7] [] _ _ 0 0 _
                refine q_iload_n rfl rfl rfl ?_
                refine q_iload_n rfl rfl rfl ?_
                refine q_iclt rfl rfl (fun c182 => absurd c182 (by decide)) (fun c182 => ?_)
                refine q_iload_n rfl rfl rfl ?_
                refine q_iload_n rfl rfl rfl ?_
                refine q_icgt rfl rfl (fun c183 => absurd c183 (by decide)) (fun c183 => ?_)
                refine q_iconst rfl rfl ?_
                refine q_goto rfl ?_
                refine q_iret rfl rfl rfl ?_
                refine ⟨_, rfl, ?_⟩
                refine q_iret rfl rfl rfl ?_
                refine ⟨_, rfl, ?_⟩
                refine q_ifeq rfl rfl (fun c184 => absurd c184 (by decide)) (fun c184 => ?_)
                refine q_aload_n rfl rfl rfl ?_
                refine q_iload_n rfl rfl rfl ?_
                refine q_iconst rfl rfl ?_
                refine q_iconst rfl rfl ?_
                refine q_nV3 rfl rfl (Or.inl rfl) rfl rfl rfl (by decide) (FW_46 S hW) ⟨rfl, rfl⟩ rfl ?_
                change PQ _ _ _ mm_X12_in 0 [.ref 46, .int 4, .int 3, .int 4] [] _ _ 0 0 _
                refine q_iload_n rfl rfl rfl ?_
                refine q_iload_n rfl rfl rfl ?_
                refine q_iclt rfl rfl (fun c185 => absurd c185 (by decide)) (fun c185 => ?_)
                refine q_iload_n rfl rfl rfl ?_
                refine q_iload_n rfl rfl rfl ?_
                refine q_icgt rfl rfl (fun c186 => absurd c186 (by decide)) (fun c186 => ?_)
                refine q_iconst rfl rfl ?_
                refine q_goto rfl ?_
                refine q_iret rfl rfl rfl ?_
                refine ⟨_, rfl, ?_⟩
                refine q_ifeq rfl rfl (fun c187 => absurd c187 (by decide)) (fun c187 => ?_)
                refine q_iload_n rfl rfl rfl ?_
                refine q_bipush rfl rfl ?_
                refine q_icle rfl rfl (fun c188 => ?_) (fun c188 => absurd (i_le_t c119 rfl) c188)
                refine q_iload_n rfl rfl rfl ?_
                refine q_ifge rfl rfl (fun c189 => ?_) (fun c189 => absurd (i_ge_t c120 rfl) c189)
                refine q_aload_n rfl rfl rfl ?_
                refine q_getf rfl rfl (by decide) (FW_46 S hW) rfl ?_
                refine q_iload_n rfl rfl rfl ?_
                refine q_iload_n rfl rfl rfl ?_
                refine q_iast rfl rfl (by decide) (FW_75 S hW) (by decide) ?_
                refine q_aload_n rfl rfl rfl ?_
                refine q_getf rfl rfl (by decide) (FW_46 S hW) rfl ?_
                refine q_iload_n rfl rfl rfl ?_
                refine q_iload_n rfl rfl rfl ?_
                refine q_iast rfl rfl (by decide) (FW_78 S hW) (by decide) ?_
                refine q_aload_n rfl rfl rfl ?_
                refine q_iload_n rfl rfl rfl ?_
                refine q_cV1v rfl rfl (Or.inl rfl) rfl rfl rfl (by decide) (FW_46 S hW) ⟨rfl, rfl⟩ rfl (fun K' hK' => l_clear (D := 6) (by decide) rfl (by decide) (FW_46 S hW) rfl (FW_79 S hW) hK') ?_
                refine q_iconst rfl rfl ?_
                refine q_iret rfl rfl trivial ?_
                refine ⟨_, rfl, ?_⟩
                refine q_iceq rfl rfl (fun c190 => ?_) (fun c190 => absurd (by decide) c190)
                refine q_icc4 (z := 6) rfl rfl rfl rfl rfl ?_
                refine q_goto rfl ?_
                refine q_iload rfl rfl rfl ?_
                refine q_aload_nF rfl rfl rfl ?_
                refine q_alenX (x := 6) rfl rfl rfl ?_
                refine q_bipush rfl rfl ?_
                refine q_isub rfl rfl (q_tn (z := 0) rfl ?_)
                refine q_icgt rfl rfl (fun c191 => ?_) (fun c191 => absurd (by decide) c191)
                refine q_iconst rfl rfl ?_
                refine q_iret rfl rfl rfl ?_
                exact hK _ _
              · refine q_aast rfl rfl (by decide) (by decide) (FW_43 S hW) rfl rfl (by decide) ?_
                refine q_iconst rfl rfl ?_
                refine q_iret rfl rfl trivial ?_
                refine ⟨_, rfl, ?_⟩
                refine q_aload_n rfl rfl rfl ?_
                refine q_aload_nF rfl rfl rfl ?_
                refine q_iload rfl rfl rfl ?_
                refine q_iconst rfl rfl ?_
                refine q_iadd rfl rfl (q_tn (z := 1) rfl ?_)
                refine q_ialdX (x := 7) rfl rfl rfl hx1 ?_
                refine q_aload_nF rfl rfl rfl ?_
                refine q_iload rfl rfl rfl ?_
                refine q_iconst rfl rfl ?_
                refine q_iadd rfl rfl (q_tn (z := 2) rfl ?_)
                refine q_ialdX (x := 4) rfl rfl rfl hx2 ?_
                refine q_aload_nF rfl rfl rfl ?_
                refine q_iload rfl rfl rfl ?_
                refine q_iconst rfl rfl ?_
                refine q_iadd rfl rfl (q_tn (z := 3) rfl ?_)
                refine q_ialdX (x := x3) rfl rfl rfl hx3 ?_
                refine q_nV3 rfl rfl (Or.inl rfl) rfl rfl rfl (by decide) (FW_46 S hW) ⟨rfl, rfl⟩ rfl ?_
                change PQ _ _ _ mm_X12_make 0 [.ref 46, .int 7, .int 4, .int x3] [] _ _ 0 0 _
                refine q_aload_n rfl rfl rfl ?_
                refine q_iload_n rfl rfl rfl ?_
                refine q_nV1 rfl rfl (Or.inl rfl) rfl rfl rfl (by decide) (FW_46 S hW) ⟨rfl, rfl⟩ rfl ?_
                change PQ _ _ _ mm_X12_isShelf 0 [.ref 46, .int 7] [] _ _ 0 0 _
                refine q_aload_n rfl rfl rfl ?_
                refine q_iload_n rfl rfl rfl ?_
                refine q_iconst rfl rfl ?_
                refine q_bipush rfl rfl ?_
                refine q_nV3 rfl rfl (Or.inl rfl) rfl rfl rfl (by decide) (FW_46 S hW) ⟨rfl, rfl⟩ rfl ?_
                change PQ _ _ _ mm_X12_in 0 [.ref 46, .int 7, .int 0, .int 7] [] _ _ 0 0 _
                refine q_iload_n rfl rfl rfl ?_
                refine q_iload_n rfl rfl rfl ?_
                refine q_iclt rfl rfl (fun c192 => absurd c192 (by decide)) (fun c192 => ?_)
                refine q_iload_n rfl rfl rfl ?_
                refine q_iload_n rfl rfl rfl ?_
                refine q_icgt rfl rfl (fun c193 => absurd c193 (by decide)) (fun c193 => ?_)
                refine q_iconst rfl rfl ?_
                refine q_goto rfl ?_
                refine q_iret rfl rfl rfl ?_
                refine ⟨_, rfl, ?_⟩
                refine q_iret rfl rfl rfl ?_
                refine ⟨_, rfl, ?_⟩
                refine q_ifeq rfl rfl (fun c194 => absurd c194 (by decide)) (fun c194 => ?_)
                refine q_aload_n rfl rfl rfl ?_
                refine q_iload_n rfl rfl rfl ?_
                refine q_iconst rfl rfl ?_
                refine q_iconst rfl rfl ?_
                refine q_nV3 rfl rfl (Or.inl rfl) rfl rfl rfl (by decide) (FW_46 S hW) ⟨rfl, rfl⟩ rfl ?_
                change PQ _ _ _ mm_X12_in 0 [.ref 46, .int 4, .int 3, .int 4] [] _ _ 0 0 _
                refine q_iload_n rfl rfl rfl ?_
                refine q_iload_n rfl rfl rfl ?_
                refine q_iclt rfl rfl (fun c195 => absurd c195 (by decide)) (fun c195 => ?_)
                refine q_iload_n rfl rfl rfl ?_
                refine q_iload_n rfl rfl rfl ?_
                refine q_icgt rfl rfl (fun c196 => absurd c196 (by decide)) (fun c196 => ?_)
                refine q_iconst rfl rfl ?_
                refine q_goto rfl ?_
                refine q_iret rfl rfl rfl ?_
                refine ⟨_, rfl, ?_⟩
                refine q_ifeq rfl rfl (fun c197 => absurd c197 (by decide)) (fun c197 => ?_)
                refine q_iload_n rfl rfl rfl ?_
                refine q_bipush rfl rfl ?_
                refine q_icle rfl rfl (fun c198 => ?_) (fun c198 => absurd (i_le_t c119 rfl) c198)
                refine q_iload_n rfl rfl rfl ?_
                refine q_ifge rfl rfl (fun c199 => ?_) (fun c199 => absurd (i_ge_t c120 rfl) c199)
                refine q_aload_n rfl rfl rfl ?_
                refine q_getf rfl rfl (by decide) (FW_46 S hW) rfl ?_
                refine q_iload_n rfl rfl rfl ?_
                refine q_iload_n rfl rfl rfl ?_
                refine q_iast rfl rfl (by decide) (FW_75 S hW) (by decide) ?_
                refine q_aload_n rfl rfl rfl ?_
                refine q_getf rfl rfl (by decide) (FW_46 S hW) rfl ?_
                refine q_iload_n rfl rfl rfl ?_
                refine q_iload_n rfl rfl rfl ?_
                refine q_iast rfl rfl (by decide) (FW_78 S hW) (by decide) ?_
                refine q_aload_n rfl rfl rfl ?_
                refine q_iload_n rfl rfl rfl ?_
                refine q_cV1v rfl rfl (Or.inl rfl) rfl rfl rfl (by decide) (FW_46 S hW) ⟨rfl, rfl⟩ rfl (fun K' hK' => l_clear (D := 7) (by decide) rfl (by decide) (FW_46 S hW) rfl (FW_79 S hW) hK') ?_
                refine q_iconst rfl rfl ?_
                refine q_iret rfl rfl trivial ?_
                refine ⟨_, rfl, ?_⟩
                refine q_iceq rfl rfl (fun c200 => ?_) (fun c200 => absurd (by decide) c200)
                refine q_icc4 (z := 6) rfl rfl rfl rfl rfl ?_
                refine q_goto rfl ?_
                refine q_iload rfl rfl rfl ?_
                refine q_aload_nF rfl rfl rfl ?_
                refine q_alenX (x := 6) rfl rfl rfl ?_
                refine q_bipush rfl rfl ?_
                refine q_isub rfl rfl (q_tn (z := 0) rfl ?_)
                refine q_icgt rfl rfl (fun c201 => ?_) (fun c201 => absurd (by decide) c201)
                refine q_iconst rfl rfl ?_
                refine q_iret rfl rfl rfl ?_
                exact hK _ _
            · refine q_bipush rfl rfl ?_
              refine q_iret rfl rfl trivial ?_
              refine ⟨_, rfl, ?_⟩
              refine q_aload_n rfl rfl rfl ?_
              refine q_aload_nF rfl rfl rfl ?_
              refine q_iload rfl rfl rfl ?_
              refine q_iconst rfl rfl ?_
              refine q_iadd rfl rfl (q_tn (z := 1) rfl ?_)
              refine q_ialdX (x := x1) rfl rfl rfl hx1 ?_
              refine q_aload_nF rfl rfl rfl ?_
              refine q_iload rfl rfl rfl ?_
              refine q_iconst rfl rfl ?_
              refine q_iadd rfl rfl (q_tn (z := 2) rfl ?_)
              refine q_ialdX (x := 4) rfl rfl rfl hx2 ?_
              refine q_aload_nF rfl rfl rfl ?_
              refine q_iload rfl rfl rfl ?_
              refine q_iconst rfl rfl ?_
              refine q_iadd rfl rfl (q_tn (z := 3) rfl ?_)
              refine q_ialdX (x := x3) rfl rfl rfl hx3 ?_
              refine q_nV3 rfl rfl (Or.inl rfl) rfl rfl rfl (by decide) (FW_46 S hW) ⟨rfl, rfl⟩ rfl ?_
              change PQ _ _ _ mm_X12_make 0 [.ref 46, .int x1, .int 4, .int x3] [] _ _ 0 0 _
              refine q_aload_n rfl rfl rfl ?_
              refine q_iload_n rfl rfl rfl ?_
              refine q_nV1 rfl rfl (Or.inl rfl) rfl rfl rfl (by decide) (FW_46 S hW) ⟨rfl, rfl⟩ rfl ?_
              change PQ _ _ _ mm_X12_isShelf 0 [.ref 46, .int x1] [] _ _ 0 0 _
              refine q_aload_n rfl rfl rfl ?_
              refine q_iload_n rfl rfl rfl ?_
              refine q_iconst rfl rfl ?_
              refine q_bipush rfl rfl ?_
              refine q_nV3 rfl rfl (Or.inl rfl) rfl rfl rfl (by decide) (FW_46 S hW) ⟨rfl, rfl⟩ rfl ?_
              change PQ _ _ _ mm_X12_in 0 [.ref 46, .int x1, .int 0, .int 7] [] _ _ 0 0 _
              refine q_iload_n rfl rfl rfl ?_
              refine q_iload_n rfl rfl rfl ?_
              refine q_iclt rfl rfl (fun c202 => absurd c202 (i_lt_f (i_nlt c1) rfl)) (fun c202 => ?_)
              refine q_iload_n rfl rfl rfl ?_
              refine q_iload_n rfl rfl rfl ?_
              refine q_icgt rfl rfl (fun c203 => absurd c203 (i_gt_f (i_ltle (i_nle c7) (B := 7) rfl) rfl)) (fun c203 => ?_)
              refine q_iconst rfl rfl ?_
              refine q_goto rfl ?_
              refine q_iret rfl rfl rfl ?_
              refine ⟨_, rfl, ?_⟩
              refine q_iret rfl rfl rfl ?_
              refine ⟨_, rfl, ?_⟩
              refine q_ifeq rfl rfl (fun c204 => absurd c204 (by decide)) (fun c204 => ?_)
              refine q_aload_n rfl rfl rfl ?_
              refine q_iload_n rfl rfl rfl ?_
              refine q_iconst rfl rfl ?_
              refine q_iconst rfl rfl ?_
              refine q_nV3 rfl rfl (Or.inl rfl) rfl rfl rfl (by decide) (FW_46 S hW) ⟨rfl, rfl⟩ rfl ?_
              change PQ _ _ _ mm_X12_in 0 [.ref 46, .int 4, .int 3, .int 4] [] _ _ 0 0 _
              refine q_iload_n rfl rfl rfl ?_
              refine q_iload_n rfl rfl rfl ?_
              refine q_iclt rfl rfl (fun c205 => absurd c205 (by decide)) (fun c205 => ?_)
              refine q_iload_n rfl rfl rfl ?_
              refine q_iload_n rfl rfl rfl ?_
              refine q_icgt rfl rfl (fun c206 => absurd c206 (by decide)) (fun c206 => ?_)
              refine q_iconst rfl rfl ?_
              refine q_goto rfl ?_
              refine q_iret rfl rfl rfl ?_
              refine ⟨_, rfl, ?_⟩
              refine q_ifeq rfl rfl (fun c207 => absurd c207 (by decide)) (fun c207 => ?_)
              refine q_iload_n rfl rfl rfl ?_
              refine q_bipush rfl rfl ?_
              refine q_icle rfl rfl (fun c208 => ?_) (fun c208 => absurd (i_le_t (i_ltle (i_nle c120) (B := (-1)) rfl) rfl) c208)
              refine q_iload_n rfl rfl rfl ?_
              refine q_ifge rfl rfl (fun c209 => absurd c209 (i_ge_f (i_ltle (i_nle c120) (B := (-1)) rfl) rfl)) (fun c209 => ?_)
              refine q_bipush rfl rfl ?_
              refine q_iret rfl rfl trivial ?_
              refine ⟨_, rfl, ?_⟩
              refine q_iceq rfl rfl (fun c210 => ?_) (fun c210 => absurd (by decide) c210)
              refine q_icc4 (z := 6) rfl rfl rfl rfl rfl ?_
              refine q_goto rfl ?_
              refine q_iload rfl rfl rfl ?_
              refine q_aload_nF rfl rfl rfl ?_
              refine q_alenX (x := 6) rfl rfl rfl ?_
              refine q_bipush rfl rfl ?_
              refine q_isub rfl rfl (q_tn (z := 0) rfl ?_)
              refine q_icgt rfl rfl (fun c211 => ?_) (fun c211 => absurd (by decide) c211)
              refine q_iconst rfl rfl ?_
              refine q_iret rfl rfl rfl ?_
              exact hK _ _
          · refine q_iconst rfl rfl ?_
            refine q_iret rfl rfl trivial ?_
            refine ⟨_, rfl, ?_⟩
            refine q_aload_n rfl rfl rfl ?_
            refine q_aload_nF rfl rfl rfl ?_
            refine q_iload rfl rfl rfl ?_
            refine q_iconst rfl rfl ?_
            refine q_iadd rfl rfl (q_tn (z := 1) rfl ?_)
            refine q_ialdX (x := x1) rfl rfl rfl hx1 ?_
            refine q_aload_nF rfl rfl rfl ?_
            refine q_iload rfl rfl rfl ?_
            refine q_iconst rfl rfl ?_
            refine q_iadd rfl rfl (q_tn (z := 2) rfl ?_)
            refine q_ialdX (x := 4) rfl rfl rfl hx2 ?_
            refine q_aload_nF rfl rfl rfl ?_
            refine q_iload rfl rfl rfl ?_
            refine q_iconst rfl rfl ?_
            refine q_iadd rfl rfl (q_tn (z := 3) rfl ?_)
            refine q_ialdX (x := x3) rfl rfl rfl hx3 ?_
            refine q_nV3 rfl rfl (Or.inl rfl) rfl rfl rfl (by decide) (FW_46 S hW) ⟨rfl, rfl⟩ rfl ?_
            change PQ _ _ _ mm_X12_make 0 [.ref 46, .int x1, .int 4, .int x3] [] _ _ 0 0 _
            refine q_aload_n rfl rfl rfl ?_
            refine q_iload_n rfl rfl rfl ?_
            refine q_nV1 rfl rfl (Or.inl rfl) rfl rfl rfl (by decide) (FW_46 S hW) ⟨rfl, rfl⟩ rfl ?_
            change PQ _ _ _ mm_X12_isShelf 0 [.ref 46, .int x1] [] _ _ 0 0 _
            refine q_aload_n rfl rfl rfl ?_
            refine q_iload_n rfl rfl rfl ?_
            refine q_iconst rfl rfl ?_
            refine q_bipush rfl rfl ?_
            refine q_nV3 rfl rfl (Or.inl rfl) rfl rfl rfl (by decide) (FW_46 S hW) ⟨rfl, rfl⟩ rfl ?_
            change PQ _ _ _ mm_X12_in 0 [.ref 46, .int x1, .int 0, .int 7] [] _ _ 0 0 _
            refine q_iload_n rfl rfl rfl ?_
            refine q_iload_n rfl rfl rfl ?_
            refine q_iclt rfl rfl (fun c212 => absurd c212 (i_lt_f (i_nlt c1) rfl)) (fun c212 => ?_)
            refine q_iload_n rfl rfl rfl ?_
            refine q_iload_n rfl rfl rfl ?_
            refine q_icgt rfl rfl (fun c213 => absurd c213 (i_gt_f (i_ltle (i_nle c7) (B := 7) rfl) rfl)) (fun c213 => ?_)
            refine q_iconst rfl rfl ?_
            refine q_goto rfl ?_
            refine q_iret rfl rfl rfl ?_
            refine ⟨_, rfl, ?_⟩
            refine q_iret rfl rfl rfl ?_
            refine ⟨_, rfl, ?_⟩
            refine q_ifeq rfl rfl (fun c214 => absurd c214 (by decide)) (fun c214 => ?_)
            refine q_aload_n rfl rfl rfl ?_
            refine q_iload_n rfl rfl rfl ?_
            refine q_iconst rfl rfl ?_
            refine q_iconst rfl rfl ?_
            refine q_nV3 rfl rfl (Or.inl rfl) rfl rfl rfl (by decide) (FW_46 S hW) ⟨rfl, rfl⟩ rfl ?_
            change PQ _ _ _ mm_X12_in 0 [.ref 46, .int 4, .int 3, .int 4] [] _ _ 0 0 _
            refine q_iload_n rfl rfl rfl ?_
            refine q_iload_n rfl rfl rfl ?_
            refine q_iclt rfl rfl (fun c215 => absurd c215 (by decide)) (fun c215 => ?_)
            refine q_iload_n rfl rfl rfl ?_
            refine q_iload_n rfl rfl rfl ?_
            refine q_icgt rfl rfl (fun c216 => absurd c216 (by decide)) (fun c216 => ?_)
            refine q_iconst rfl rfl ?_
            refine q_goto rfl ?_
            refine q_iret rfl rfl rfl ?_
            refine ⟨_, rfl, ?_⟩
            refine q_ifeq rfl rfl (fun c217 => absurd c217 (by decide)) (fun c217 => ?_)
            refine q_iload_n rfl rfl rfl ?_
            refine q_bipush rfl rfl ?_
            refine q_icle rfl rfl (fun c218 => absurd c218 (i_le_f (i_ltge (i_nle c119) (B := 61) rfl) rfl)) (fun c218 => ?_)
            refine q_iconst rfl rfl ?_
            refine q_iret rfl rfl trivial ?_
            refine ⟨_, rfl, ?_⟩
            refine q_iceq rfl rfl (fun c219 => ?_) (fun c219 => absurd (by decide) c219)
            refine q_icc4 (z := 6) rfl rfl rfl rfl rfl ?_
            refine q_goto rfl ?_
            refine q_iload rfl rfl rfl ?_
            refine q_aload_nF rfl rfl rfl ?_
            refine q_alenX (x := 6) rfl rfl rfl ?_
            refine q_bipush rfl rfl ?_
            refine q_isub rfl rfl (q_tn (z := 0) rfl ?_)
            refine q_icgt rfl rfl (fun c220 => ?_) (fun c220 => absurd (by decide) c220)
            refine q_iconst rfl rfl ?_
            refine q_iret rfl rfl rfl ?_
            exact hK _ _
        · refine q_iconst rfl rfl ?_
          refine q_iret rfl rfl trivial ?_
          refine ⟨_, rfl, ?_⟩
          refine q_aload_n rfl rfl rfl ?_
          refine q_aload_nF rfl rfl rfl ?_
          refine q_iload rfl rfl rfl ?_
          refine q_iconst rfl rfl ?_
          refine q_iadd rfl rfl (q_tn (z := 1) rfl ?_)
          refine q_ialdX (x := x1) rfl rfl rfl hx1 ?_
          refine q_aload_nF rfl rfl rfl ?_
          refine q_iload rfl rfl rfl ?_
          refine q_iconst rfl rfl ?_
          refine q_iadd rfl rfl (q_tn (z := 2) rfl ?_)
          refine q_ialdX (x := x2) rfl rfl rfl hx2 ?_
          refine q_aload_nF rfl rfl rfl ?_
          refine q_iload rfl rfl rfl ?_
          refine q_iconst rfl rfl ?_
          refine q_iadd rfl rfl (q_tn (z := 3) rfl ?_)
          refine q_ialdX (x := x3) rfl rfl rfl hx3 ?_
          refine q_nV3 rfl rfl (Or.inl rfl) rfl rfl rfl (by decide) (FW_46 S hW) ⟨rfl, rfl⟩ rfl ?_
          change PQ _ _ _ mm_X12_make 0 [.ref 46, .int x1, .int x2, .int x3] [] _ _ 0 0 _
          refine q_aload_n rfl rfl rfl ?_
          refine q_iload_n rfl rfl rfl ?_
          refine q_nV1 rfl rfl (Or.inl rfl) rfl rfl rfl (by decide) (FW_46 S hW) ⟨rfl, rfl⟩ rfl ?_
          change PQ _ _ _ mm_X12_isShelf 0 [.ref 46, .int x1] [] _ _ 0 0 _
          refine q_aload_n rfl rfl rfl ?_
          refine q_iload_n rfl rfl rfl ?_
          refine q_iconst rfl rfl ?_
          refine q_bipush rfl rfl ?_
          refine q_nV3 rfl rfl (Or.inl rfl) rfl rfl rfl (by decide) (FW_46 S hW) ⟨rfl, rfl⟩ rfl ?_
          change PQ _ _ _ mm_X12_in 0 [.ref 46, .int x1, .int 0, .int 7] [] _ _ 0 0 _
          refine q_iload_n rfl rfl rfl ?_
          refine q_iload_n rfl rfl rfl ?_
          refine q_iclt rfl rfl (fun c221 => absurd c221 (i_lt_f (i_nlt c1) rfl)) (fun c221 => ?_)
          refine q_iload_n rfl rfl rfl ?_
          refine q_iload_n rfl rfl rfl ?_
          refine q_icgt rfl rfl (fun c222 => absurd c222 (i_gt_f (i_ltle (i_nle c7) (B := 7) rfl) rfl)) (fun c222 => ?_)
          refine q_iconst rfl rfl ?_
          refine q_goto rfl ?_
          refine q_iret rfl rfl rfl ?_
          refine ⟨_, rfl, ?_⟩
          refine q_iret rfl rfl rfl ?_
          refine ⟨_, rfl, ?_⟩
          refine q_ifeq rfl rfl (fun c223 => absurd c223 (by decide)) (fun c223 => ?_)
          refine q_aload_n rfl rfl rfl ?_
          refine q_iload_n rfl rfl rfl ?_
          refine q_iconst rfl rfl ?_
          refine q_iconst rfl rfl ?_
          refine q_nV3 rfl rfl (Or.inl rfl) rfl rfl rfl (by decide) (FW_46 S hW) ⟨rfl, rfl⟩ rfl ?_
          change PQ _ _ _ mm_X12_in 0 [.ref 46, .int x2, .int 3, .int 4] [] _ _ 0 0 _
          refine q_iload_n rfl rfl rfl ?_
          refine q_iload_n rfl rfl rfl ?_
          refine q_iclt rfl rfl (fun c224 => ?_) (fun c224 => ?_)
          · refine q_iconst rfl rfl ?_
            refine q_iret rfl rfl rfl ?_
            refine ⟨_, rfl, ?_⟩
            refine q_ifeq rfl rfl (fun c225 => ?_) (fun c225 => absurd (by decide) c225)
            refine q_iconst rfl rfl ?_
            refine q_iret rfl rfl trivial ?_
            refine ⟨_, rfl, ?_⟩
            refine q_iceq rfl rfl (fun c226 => ?_) (fun c226 => absurd (by decide) c226)
            refine q_icc4 (z := 6) rfl rfl rfl rfl rfl ?_
            refine q_goto rfl ?_
            refine q_iload rfl rfl rfl ?_
            refine q_aload_nF rfl rfl rfl ?_
            refine q_alenX (x := 6) rfl rfl rfl ?_
            refine q_bipush rfl rfl ?_
            refine q_isub rfl rfl (q_tn (z := 0) rfl ?_)
            refine q_icgt rfl rfl (fun c227 => ?_) (fun c227 => absurd (by decide) c227)
            refine q_iconst rfl rfl ?_
            refine q_iret rfl rfl rfl ?_
            exact hK _ _
          · refine q_iload_n rfl rfl rfl ?_
            refine q_iload_n rfl rfl rfl ?_
            refine q_icgt rfl rfl (fun c228 => ?_) (fun c228 => absurd (i_gt_t (i_ltge (i_nle (fun q => c118 (Int32.le_antisymm q (i_ltge (i_nle (fun q => c15 (Int32.le_antisymm q (i_nlt c224)))) (B := 4) rfl)))) (B := 5) rfl) rfl) c228)
            refine q_iconst rfl rfl ?_
            refine q_iret rfl rfl rfl ?_
            refine ⟨_, rfl, ?_⟩
            refine q_ifeq rfl rfl (fun c229 => ?_) (fun c229 => absurd (by decide) c229)
            refine q_iconst rfl rfl ?_
            refine q_iret rfl rfl trivial ?_
            refine ⟨_, rfl, ?_⟩
            refine q_iceq rfl rfl (fun c230 => ?_) (fun c230 => absurd (by decide) c230)
            refine q_icc4 (z := 6) rfl rfl rfl rfl rfl ?_
            refine q_goto rfl ?_
            refine q_iload rfl rfl rfl ?_
            refine q_aload_nF rfl rfl rfl ?_
            refine q_alenX (x := 6) rfl rfl rfl ?_
            refine q_bipush rfl rfl ?_
            refine q_isub rfl rfl (q_tn (z := 0) rfl ?_)
            refine q_icgt rfl rfl (fun c231 => ?_) (fun c231 => absurd (by decide) c231)
            refine q_iconst rfl rfl ?_
            refine q_iret rfl rfl rfl ?_
            exact hK _ _
end TR
