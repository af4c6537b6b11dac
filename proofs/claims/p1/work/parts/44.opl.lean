section TR
variable {EX : pm_M → pm_C → (pm_C → Prop) → Prop} {xs : Nat → Int32} {K : q_K}
set_option maxHeartbeats 40000000 in
set_option maxRecDepth 20000 in
theorem t_op23 {S : Nat → pm_E} (hW : FW S) {x1 x2 x3 x4 x5 : Int32} (hx1 : xs 1 = x1) (hx2 : xs 2 = x2) (hx3 : xs 3 = x3) (hx4 : xs 4 = x4) (hx5 : xs 5 = x5) (hK : ∀ S n, K (some (.int 1)) S n) : PQ (j_SL 6) (j_SV xs) j_EX mm_L_law 967 [.float 5, .ref 0, .ref 46, .ref 81, .int 0, pm_un, pm_un, pm_un] [] S 82 82 190091 K := by
  refine q_aload_n rfl rfl rfl ?_
  refine q_aload_nF rfl rfl rfl ?_
  refine q_iload rfl rfl rfl ?_
  refine q_iconst rfl rfl ?_
  refine q_iadd rfl rfl (q_tn (z := 1) rfl ?_)
  refine q_ialdX (x := x1) rfl rfl rfl hx1 ?_
  refine q_aload_nF rfl rfl rfl ?_
  refine q_iload rfl rfl rfl ?_
  refine q_iconst rfl rfl ?_
  refine q_iadd rfl rfl (q_tn (z := 2) rfl ?_)
  refine q_ialdX (x := x2) rfl rfl rfl hx2 ?_
  refine q_aload_nF rfl rfl rfl ?_
  refine q_iload rfl rfl rfl ?_
  refine q_iconst rfl rfl ?_
  refine q_iadd rfl rfl (q_tn (z := 3) rfl ?_)
  refine q_ialdX (x := x3) rfl rfl rfl hx3 ?_
  refine q_aload_nF rfl rfl rfl ?_
  refine q_iload rfl rfl rfl ?_
  refine q_iconst rfl rfl ?_
  refine q_iadd rfl rfl (q_tn (z := 4) rfl ?_)
  refine q_ialdX (x := x4) rfl rfl rfl hx4 ?_
  refine q_nV4A rfl rfl (Or.inl rfl) rfl rfl rfl (by decide) (FW_0 S hW) ⟨rfl, rfl⟩ rfl rfl rfl ?_
  change PQ _ _ _ mm_X11_keep 0 [.ref 0, .int x1, .int x2, .int x3, .int x4] [] _ _ 0 0 _
  refine q_iload_n rfl rfl rfl ?_
  refine q_bipush rfl rfl ?_
  refine q_nS2 rfl rfl (Or.inl rfl) rfl rfl ⟨rfl, rfl⟩ rfl ?_
  change PQ _ _ _ mm_X11_within 0 [.int x1, .int 8] [] _ _ 0 0 _
  refine q_iload_n rfl rfl rfl ?_
  refine q_iflt rfl rfl (fun c1 => ?_) (fun c1 => ?_)
  · refine q_iconst rfl rfl ?_
    refine q_iret rfl rfl rfl ?_
    refine ⟨_, rfl, ?_⟩
    refine q_ifne rfl rfl (fun c2 => ?_) (fun c2 => absurd (by decide) c2)
    refine q_iconst rfl rfl ?_
    refine q_iret rfl rfl trivial ?_
    refine ⟨_, rfl, ?_⟩
    refine q_aload_n rfl rfl rfl ?_
    refine q_aload_nF rfl rfl rfl ?_
    refine q_iload rfl rfl rfl ?_
    refine q_iconst rfl rfl ?_
    refine q_iadd rfl rfl (q_tn (z := 1) rfl ?_)
    refine q_ialdX (x := x1) rfl rfl rfl hx1 ?_
    refine q_aload_nF rfl rfl rfl ?_
    refine q_iload rfl rfl rfl ?_
    refine q_iconst rfl rfl ?_
    refine q_iadd rfl rfl (q_tn (z := 2) rfl ?_)
    refine q_ialdX (x := x2) rfl rfl rfl hx2 ?_
    refine q_aload_nF rfl rfl rfl ?_
    refine q_iload rfl rfl rfl ?_
    refine q_iconst rfl rfl ?_
    refine q_iadd rfl rfl (q_tn (z := 3) rfl ?_)
    refine q_ialdX (x := x3) rfl rfl rfl hx3 ?_
    refine q_aload_nF rfl rfl rfl ?_
    refine q_iload rfl rfl rfl ?_
    refine q_iconst rfl rfl ?_
    refine q_iadd rfl rfl (q_tn (z := 4) rfl ?_)
    refine q_ialdX (x := x4) rfl rfl rfl hx4 ?_
    refine q_nV4 rfl rfl (Or.inl rfl) rfl rfl rfl (by decide) (FW_46 S hW) ⟨rfl, rfl⟩ rfl ?_
    change PQ _ _ _ mm_X12_keep 0 [.ref 46, .int x1, .int x2, .int x3, .int x4, pm_un, pm_un] [] _ _ 0 0 _
    refine q_aload_n rfl rfl rfl ?_
    refine q_iload_n rfl rfl rfl ?_
    refine q_nV1 rfl rfl (Or.inl rfl) rfl rfl rfl (by decide) (FW_46 S hW) ⟨rfl, rfl⟩ rfl ?_
    change PQ _ _ _ mm_X12_isShelf 0 [.ref 46, .int x1] [] _ _ 0 0 _
    refine q_aload_n rfl rfl rfl ?_
    refine q_iload_n rfl rfl rfl ?_
    refine q_iconst rfl rfl ?_
    refine q_bipush rfl rfl ?_
    refine q_nV3 rfl rfl (Or.inl rfl) rfl rfl rfl (by decide) (FW_46 S hW) ⟨rfl, rfl⟩ rfl ?_
    change PQ _ _ _ mm_X12_in 0 [.ref 46, .int x1, .int 0, .int 7] [] _ _ 0 0 _
    refine q_iload_n rfl rfl rfl ?_
    refine q_iload_n rfl rfl rfl ?_
    refine q_iclt rfl rfl (fun c3 => ?_) (fun c3 => absurd (i_lt_t (i_ltle c1 (B := (-1)) rfl) rfl) c3)
    refine q_iconst rfl rfl ?_
    refine q_iret rfl rfl rfl ?_
    refine ⟨_, rfl, ?_⟩
    refine q_iret rfl rfl rfl ?_
    refine ⟨_, rfl, ?_⟩
    refine q_ifeq rfl rfl (fun c4 => ?_) (fun c4 => absurd (by decide) c4)
    refine q_iconst rfl rfl ?_
    refine q_ist5 rfl rfl rfl rfl ?_
    refine q_iload rfl rfl rfl ?_
    refine q_ifne rfl rfl (fun c5 => ?_) (fun c5 => absurd (by decide) c5)
    refine q_iconst rfl rfl ?_
    refine q_iret rfl rfl trivial ?_
    refine ⟨_, rfl, ?_⟩
    refine q_iceq rfl rfl (fun c6 => ?_) (fun c6 => absurd (by decide) c6)
    refine q_icc4 (z := 6) rfl rfl rfl rfl rfl ?_
    refine q_goto rfl ?_
    refine q_iload rfl rfl rfl ?_
    refine q_aload_nF rfl rfl rfl ?_
    refine q_alenX (x := 6) rfl rfl rfl ?_
    refine q_bipush rfl rfl ?_
    refine q_isub rfl rfl (q_tn (z := 0) rfl ?_)
    refine q_icgt rfl rfl (fun c7 => ?_) (fun c7 => absurd (by decide) c7)
    refine q_iconst rfl rfl ?_
    refine q_iret rfl rfl rfl ?_
    exact hK _ _
  · refine q_iload_n rfl rfl rfl ?_
    refine q_iload_n rfl rfl rfl ?_
    refine q_icge rfl rfl (fun c8 => ?_) (fun c8 => ?_)
    · refine q_iconst rfl rfl ?_
      refine q_iret rfl rfl rfl ?_
      refine ⟨_, rfl, ?_⟩
      refine q_ifne rfl rfl (fun c9 => ?_) (fun c9 => absurd (by decide) c9)
      refine q_iconst rfl rfl ?_
      refine q_iret rfl rfl trivial ?_
      refine ⟨_, rfl, ?_⟩
      refine q_aload_n rfl rfl rfl ?_
      refine q_aload_nF rfl rfl rfl ?_
      refine q_iload rfl rfl rfl ?_
      refine q_iconst rfl rfl ?_
      refine q_iadd rfl rfl (q_tn (z := 1) rfl ?_)
      refine q_ialdX (x := x1) rfl rfl rfl hx1 ?_
      refine q_aload_nF rfl rfl rfl ?_
      refine q_iload rfl rfl rfl ?_
      refine q_iconst rfl rfl ?_
      refine q_iadd rfl rfl (q_tn (z := 2) rfl ?_)
      refine q_ialdX (x := x2) rfl rfl rfl hx2 ?_
      refine q_aload_nF rfl rfl rfl ?_
      refine q_iload rfl rfl rfl ?_
      refine q_iconst rfl rfl ?_
      refine q_iadd rfl rfl (q_tn (z := 3) rfl ?_)
      refine q_ialdX (x := x3) rfl rfl rfl hx3 ?_
      refine q_aload_nF rfl rfl rfl ?_
      refine q_iload rfl rfl rfl ?_
      refine q_iconst rfl rfl ?_
      refine q_iadd rfl rfl (q_tn (z := 4) rfl ?_)
      refine q_ialdX (x := x4) rfl rfl rfl hx4 ?_
      refine q_nV4 rfl rfl (Or.inl rfl) rfl rfl rfl (by decide) (FW_46 S hW) ⟨rfl, rfl⟩ rfl ?_
      change PQ _ _ _ mm_X12_keep 0 [.ref 46, .int x1, .int x2, .int x3, .int x4, pm_un, pm_un] [] _ _ 0 0 _
      refine q_aload_n rfl rfl rfl ?_
      refine q_iload_n rfl rfl rfl ?_
      refine q_nV1 rfl rfl (Or.inl rfl) rfl rfl rfl (by decide) (FW_46 S hW) ⟨rfl, rfl⟩ rfl ?_
      change PQ _ _ _ mm_X12_isShelf 0 [.ref 46, .int x1] [] _ _ 0 0 _
      refine q_aload_n rfl rfl rfl ?_
      refine q_iload_n rfl rfl rfl ?_
      refine q_iconst rfl rfl ?_
      refine q_bipush rfl rfl ?_
      refine q_nV3 rfl rfl (Or.inl rfl) rfl rfl rfl (by decide) (FW_46 S hW) ⟨rfl, rfl⟩ rfl ?_
      change PQ _ _ _ mm_X12_in 0 [.ref 46, .int x1, .int 0, .int 7] [] _ _ 0 0 _
      refine q_iload_n rfl rfl rfl ?_
      refine q_iload_n rfl rfl rfl ?_
      refine q_iclt rfl rfl (fun c10 => absurd c10 (i_lt_f c8 rfl)) (fun c10 => ?_)
      refine q_iload_n rfl rfl rfl ?_
      refine q_iload_n rfl rfl rfl ?_
      refine q_icgt rfl rfl (fun c11 => ?_) (fun c11 => absurd (i_gt_t c8 rfl) c11)
      refine q_iconst rfl rfl ?_
      refine q_iret rfl rfl rfl ?_
      refine ⟨_, rfl, ?_⟩
      refine q_iret rfl rfl rfl ?_
      refine ⟨_, rfl, ?_⟩
      refine q_ifeq rfl rfl (fun c12 => ?_) (fun c12 => absurd (by decide) c12)
      refine q_iconst rfl rfl ?_
      refine q_ist5 rfl rfl rfl rfl ?_
      refine q_iload rfl rfl rfl ?_
      refine q_ifne rfl rfl (fun c13 => ?_) (fun c13 => absurd (by decide) c13)
      refine q_iconst rfl rfl ?_
      refine q_iret rfl rfl trivial ?_
      refine ⟨_, rfl, ?_⟩
      refine q_iceq rfl rfl (fun c14 => ?_) (fun c14 => absurd (by decide) c14)
      refine q_icc4 (z := 6) rfl rfl rfl rfl rfl ?_
      refine q_goto rfl ?_
      refine q_iload rfl rfl rfl ?_
      refine q_aload_nF rfl rfl rfl ?_
      refine q_alenX (x := 6) rfl rfl rfl ?_
      refine q_bipush rfl rfl ?_
      refine q_isub rfl rfl (q_tn (z := 0) rfl ?_)
      refine q_icgt rfl rfl (fun c15 => ?_) (fun c15 => absurd (by decide) c15)
      refine q_iconst rfl rfl ?_
      refine q_iret rfl rfl rfl ?_
      exact hK _ _
    · refine q_iconst rfl rfl ?_
      refine q_goto rfl ?_
      refine q_iret rfl rfl rfl ?_
      refine ⟨_, rfl, ?_⟩
      refine q_ifne rfl rfl (fun c16 => absurd c16 (by decide)) (fun c16 => ?_)
      refine q_iload_n rfl rfl rfl ?_
      refine q_ifne rfl rfl (fun c17 => ?_) (fun c17 => ?_)
      · subst c17
        refine q_aload_n rfl rfl rfl ?_
        refine q_getf rfl rfl (by decide) (FW_0 S hW) rfl ?_
        refine q_iload_n rfl rfl rfl ?_
        refine q_null rfl rfl ?_
        rcases i_en7 (i_nlt c1) (i_ltle (i_nle c8) (B := 7) rfl) with rfl | rfl | rfl | rfl | rfl | rfl | rfl | rfl
        · refine q_aastN rfl rfl (by decide) (FW_43 S hW) (by decide) ?_
          refine q_iconst rfl rfl ?_
          refine q_iret rfl rfl trivial ?_
          refine ⟨_, rfl, ?_⟩
          refine q_aload_n rfl rfl rfl ?_
          refine q_aload_nF rfl rfl rfl ?_
          refine q_iload rfl rfl rfl ?_
          refine q_iconst rfl rfl ?_
          refine q_iadd rfl rfl (q_tn (z := 1) rfl ?_)
          refine q_ialdX (x := 0) rfl rfl rfl hx1 ?_
          refine q_aload_nF rfl rfl rfl ?_
          refine q_iload rfl rfl rfl ?_
          refine q_iconst rfl rfl ?_
          refine q_iadd rfl rfl (q_tn (z := 2) rfl ?_)
          refine q_ialdX (x := 0) rfl rfl rfl hx2 ?_
          refine q_aload_nF rfl rfl rfl ?_
          refine q_iload rfl rfl rfl ?_
          refine q_iconst rfl rfl ?_
          refine q_iadd rfl rfl (q_tn (z := 3) rfl ?_)
          refine q_ialdX (x := x3) rfl rfl rfl hx3 ?_
          refine q_aload_nF rfl rfl rfl ?_
          refine q_iload rfl rfl rfl ?_
          refine q_iconst rfl rfl ?_
          refine q_iadd rfl rfl (q_tn (z := 4) rfl ?_)
          refine q_ialdX (x := x4) rfl rfl rfl hx4 ?_
          refine q_nV4 rfl rfl (Or.inl rfl) rfl rfl rfl (by decide) (FW_46 S hW) ⟨rfl, rfl⟩ rfl ?_
          change PQ _ _ _ mm_X12_keep 0 [.ref 46, .int 0, .int 0, .int x3, .int x4, pm_un, pm_un] [] _ _ 0 0 _
          refine q_aload_n rfl rfl rfl ?_
          refine q_iload_n rfl rfl rfl ?_
          refine q_nV1 rfl rfl (Or.inl rfl) rfl rfl rfl (by decide) (FW_46 S hW) ⟨rfl, rfl⟩ rfl ?_
          change PQ _ _ _ mm_X12_isShelf 0 [.ref 46, .int 0] [] _ _ 0 0 _
          refine q_aload_n rfl rfl rfl ?_
          refine q_iload_n rfl rfl rfl ?_
          refine q_iconst rfl rfl ?_
          refine q_bipush rfl rfl ?_
          refine q_nV3 rfl rfl (Or.inl rfl) rfl rfl rfl (by decide) (FW_46 S hW) ⟨rfl, rfl⟩ rfl ?_
          change PQ _ _ _ mm_X12_in 0 [.ref 46, .int 0, .int 0, .int 7] [] _ _ 0 0 _
          refine q_iload_n rfl rfl rfl ?_
          refine q_iload_n rfl rfl rfl ?_
          refine q_iclt rfl rfl (fun c18 => absurd c18 (by decide)) (fun c18 => ?_)
          refine q_iload_n rfl rfl rfl ?_
          refine q_iload_n rfl rfl rfl ?_
          refine q_icgt rfl rfl (fun c19 => absurd c19 (by decide)) (fun c19 => ?_)
          refine q_iconst rfl rfl ?_
          refine q_goto rfl ?_
          refine q_iret rfl rfl rfl ?_
          refine ⟨_, rfl, ?_⟩
          refine q_iret rfl rfl rfl ?_
          refine ⟨_, rfl, ?_⟩
          refine q_ifeq rfl rfl (fun c20 => absurd c20 (by decide)) (fun c20 => ?_)
          refine q_iload_n rfl rfl rfl ?_
          refine q_ifeq rfl rfl (fun c21 => ?_) (fun c21 => absurd (by decide) c21)
          refine q_iconst rfl rfl ?_
          refine q_goto rfl ?_
          refine q_ist5 rfl rfl rfl rfl ?_
          refine q_iload rfl rfl rfl ?_
          refine q_ifne rfl rfl (fun c22 => absurd c22 (by decide)) (fun c22 => ?_)
          refine q_aload_n rfl rfl rfl ?_
          refine q_getf rfl rfl (by decide) (FW_46 S hW) rfl ?_
          refine q_iload_n rfl rfl rfl ?_
          refine q_iload_n rfl rfl rfl ?_
          refine q_iast rfl rfl (by decide) (FW_75 S hW) (by decide) ?_
          refine q_aload_n rfl rfl rfl ?_
          refine q_iload_n rfl rfl rfl ?_
          refine q_cV1v rfl rfl (Or.inl rfl) rfl rfl rfl (by decide) (FW_46 S hW) ⟨rfl, rfl⟩ rfl (fun K' hK' => l_clear (D := 0) (by decide) rfl (by decide) (FW_46 S hW) rfl (FW_79 S hW) hK') ?_
          refine q_iload_n rfl rfl rfl ?_
          refine q_iconst rfl rfl ?_
          refine q_icne rfl rfl (fun c23 => absurd c23 (by decide)) (fun c23 => ?_)
          refine q_iload_n rfl rfl rfl ?_
          refine q_iconst rfl rfl ?_
          refine q_icne rfl rfl (fun c24 => absurd c24 (by decide)) (fun c24 => ?_)
          refine q_iload_n rfl rfl rfl ?_
          refine q_iconst rfl rfl ?_
          refine q_icne rfl rfl (fun c25 => absurd c25 (by decide)) (fun c25 => ?_)
          refine q_iconst rfl rfl ?_
          refine q_iret rfl rfl trivial ?_
          refine ⟨_, rfl, ?_⟩
          refine q_iceq rfl rfl (fun c26 => ?_) (fun c26 => absurd (by decide) c26)
          refine q_icc4 (z := 6) rfl rfl rfl rfl rfl ?_
          refine q_goto rfl ?_
          refine q_iload rfl rfl rfl ?_
          refine q_aload_nF rfl rfl rfl ?_
          refine q_alenX (x := 6) rfl rfl rfl ?_
          refine q_bipush rfl rfl ?_
          refine q_isub rfl rfl (q_tn (z := 0) rfl ?_)
          refine q_icgt rfl rfl (fun c27 => ?_) (fun c27 => absurd (by decide) c27)
          refine q_iconst rfl rfl ?_
          refine q_iret rfl rfl rfl ?_
          exact hK _ _
        · refine q_aastN rfl rfl (by decide) (FW_43 S hW) (by decide) ?_
          refine q_iconst rfl rfl ?_
          refine q_iret rfl rfl trivial ?_
          refine ⟨_, rfl, ?_⟩
          refine q_aload_n rfl rfl rfl ?_
          refine q_aload_nF rfl rfl rfl ?_
          refine q_iload rfl rfl rfl ?_
          refine q_iconst rfl rfl ?_
          refine q_iadd rfl rfl (q_tn (z := 1) rfl ?_)
          refine q_ialdX (x := 1) rfl rfl rfl hx1 ?_
          refine q_aload_nF rfl rfl rfl ?_
          refine q_iload rfl rfl rfl ?_
          refine q_iconst rfl rfl ?_
          refine q_iadd rfl rfl (q_tn (z := 2) rfl ?_)
          refine q_ialdX (x := 0) rfl rfl rfl hx2 ?_
          refine q_aload_nF rfl rfl rfl ?_
          refine q_iload rfl rfl rfl ?_
          refine q_iconst rfl rfl ?_
          refine q_iadd rfl rfl (q_tn (z := 3) rfl ?_)
          refine q_ialdX (x := x3) rfl rfl rfl hx3 ?_
          refine q_aload_nF rfl rfl rfl ?_
          refine q_iload rfl rfl rfl ?_
          refine q_iconst rfl rfl ?_
          refine q_iadd rfl rfl (q_tn (z := 4) rfl ?_)
          refine q_ialdX (x := x4) rfl rfl rfl hx4 ?_
          refine q_nV4 rfl rfl (Or.inl rfl) rfl rfl rfl (by decide) (FW_46 S hW) ⟨rfl, rfl⟩ rfl ?_
          change PQ _ _ _ mm_X12_keep 0 [.ref 46, .int 1, .int 0, .int x3, .int x4, pm_un, pm_un] [] _ _ 0 0 _
          refine q_aload_n rfl rfl rfl ?_
          refine q_iload_n rfl rfl rfl ?_
          refine q_nV1 rfl rfl (Or.inl rfl) rfl rfl rfl (by decide) (FW_46 S hW) ⟨rfl, rfl⟩ rfl ?_
          change PQ _ _ _ mm_X12_isShelf 0 [.ref 46, .int 1] [] _ _ 0 0 _
          refine q_aload_n rfl rfl rfl ?_
          refine q_iload_n rfl rfl rfl ?_
          refine q_iconst rfl rfl ?_
          refine q_bipush rfl rfl ?_
          refine q_nV3 rfl rfl (Or.inl rfl) rfl rfl rfl (by decide) (FW_46 S hW) ⟨rfl, rfl⟩ rfl ?_
          change PQ _ _ _ mm_X12_in 0 [.ref 46, .int 1, .int 0, .int 7] [] _ _ 0 0 _
          refine q_iload_n rfl rfl rfl ?_
          refine q_iload_n rfl rfl rfl ?_
          refine q_iclt rfl rfl (fun c28 => absurd c28 (by decide)) (fun c28 => ?_)
          refine q_iload_n rfl rfl rfl ?_
          refine q_iload_n rfl rfl rfl ?_
          refine q_icgt rfl rfl (fun c29 => absurd c29 (by decide)) (fun c29 => ?_)
          refine q_iconst rfl rfl ?_
          refine q_goto rfl ?_
          refine q_iret rfl rfl rfl ?_
          refine ⟨_, rfl, ?_⟩
          refine q_iret rfl rfl rfl ?_
          refine ⟨_, rfl, ?_⟩
          refine q_ifeq rfl rfl (fun c30 => absurd c30 (by decide)) (fun c30 => ?_)
          refine q_iload_n rfl rfl rfl ?_
          refine q_ifeq rfl rfl (fun c31 => ?_) (fun c31 => absurd (by decide) c31)
          refine q_iconst rfl rfl ?_
          refine q_goto rfl ?_
          refine q_ist5 rfl rfl rfl rfl ?_
          refine q_iload rfl rfl rfl ?_
          refine q_ifne rfl rfl (fun c32 => absurd c32 (by decide)) (fun c32 => ?_)
          refine q_aload_n rfl rfl rfl ?_
          refine q_getf rfl rfl (by decide) (FW_46 S hW) rfl ?_
          refine q_iload_n rfl rfl rfl ?_
          refine q_iload_n rfl rfl rfl ?_
          refine q_iast rfl rfl (by decide) (FW_75 S hW) (by decide) ?_
          refine q_aload_n rfl rfl rfl ?_
          refine q_iload_n rfl rfl rfl ?_
          refine q_cV1v rfl rfl (Or.inl rfl) rfl rfl rfl (by decide) (FW_46 S hW) ⟨rfl, rfl⟩ rfl (fun K' hK' => l_clear (D := 1) (by decide) rfl (by decide) (FW_46 S hW) rfl (FW_79 S hW) hK') ?_
          refine q_iload_n rfl rfl rfl ?_
          refine q_iconst rfl rfl ?_
          refine q_icne rfl rfl (fun c33 => absurd c33 (by decide)) (fun c33 => ?_)
          refine q_iload_n rfl rfl rfl ?_
          refine q_iconst rfl rfl ?_
          refine q_icne rfl rfl (fun c34 => absurd c34 (by decide)) (fun c34 => ?_)
          refine q_iload_n rfl rfl rfl ?_
          refine q_iconst rfl rfl ?_
          refine q_icne rfl rfl (fun c35 => absurd c35 (by decide)) (fun c35 => ?_)
          refine q_iconst rfl rfl ?_
          refine q_iret rfl rfl trivial ?_
          refine ⟨_, rfl, ?_⟩
          refine q_iceq rfl rfl (fun c36 => ?_) (fun c36 => absurd (by decide) c36)
          refine q_icc4 (z := 6) rfl rfl rfl rfl rfl ?_
          refine q_goto rfl ?_
          refine q_iload rfl rfl rfl ?_
          refine q_aload_nF rfl rfl rfl ?_
          refine q_alenX (x := 6) rfl rfl rfl ?_
          refine q_bipush rfl rfl ?_
          refine q_isub rfl rfl (q_tn (z := 0) rfl ?_)
          refine q_icgt rfl rfl (fun c37 => ?_) (fun c37 => absurd (by decide) c37)
          refine q_iconst rfl rfl ?_
          refine q_iret rfl rfl rfl ?_
          exact hK _ _
        · refine q_aastN rfl rfl (by decide) (FW_43 S hW) (by decide) ?_
          refine q_iconst rfl rfl ?_
          refine q_iret rfl rfl trivial ?_
          refine ⟨_, rfl, ?_⟩
          refine q_aload_n rfl rfl rfl ?_
          refine q_aload_nF rfl rfl rfl ?_
          refine q_iload rfl rfl rfl ?_
          refine q_iconst rfl rfl ?_
          refine q_iadd rfl rfl (q_tn (z := 1) rfl ?_)
          refine q_ialdX (x := 2) rfl rfl rfl hx1 ?_
          refine q_aload_nF rfl rfl rfl ?_
          refine q_iload rfl rfl rfl ?_
          refine q_iconst rfl rfl ?_
          refine q_iadd rfl rfl (q_tn (z := 2) rfl ?_)
          refine q_ialdX (x := 0) rfl rfl rfl hx2 ?_
          refine q_aload_nF rfl rfl rfl ?_
          refine q_iload rfl rfl rfl ?_
          refine q_iconst rfl rfl ?_
          refine q_iadd rfl rfl (q_tn (z := 3) rfl ?_)
          refine q_ialdX (x := x3) rfl rfl rfl hx3 ?_
          refine q_aload_nF rfl rfl rfl ?_
          refine q_iload rfl rfl rfl ?_
          refine q_iconst rfl rfl ?_
          refine q_iadd rfl rfl (q_tn (z := 4) rfl ?_)
          refine q_ialdX (x := x4) rfl rfl rfl hx4 ?_
          refine q_nV4 rfl rfl (Or.inl rfl) rfl rfl rfl (by decide) (FW_46 S hW) ⟨rfl, rfl⟩ rfl ?_
          change PQ _ _ _ mm_X12_keep 0 [.ref 46, .int 2, .int 0, .int x3, .int x4, pm_un, pm_un] [] _ _ 0 0 _
          refine q_aload_n rfl rfl rfl ?_
          refine q_iload_n rfl rfl rfl ?_
          refine q_nV1 rfl rfl (Or.inl rfl) rfl rfl rfl (by decide) (FW_46 S hW) ⟨rfl, rfl⟩ rfl ?_
          change PQ _ _ _ mm_X12_isShelf 0 [.ref 46, .int 2] [] _ _ 0 0 _
          refine q_aload_n rfl rfl rfl ?_
          refine q_iload_n rfl rfl rfl ?_
          refine q_iconst rfl rfl ?_
          refine q_bipush rfl rfl ?_
          refine q_nV3 rfl rfl (Or.inl rfl) rfl rfl rfl (by decide) (FW_46 S hW) ⟨rfl, rfl⟩ rfl ?_
          change PQ _ _ _ mm_X12_in 0 [.ref 46, .int 2, .int 0, .int 7] [] _ _ 0 0 _
          refine q_iload_n rfl rfl rfl ?_
          refine q_iload_n rfl rfl rfl ?_
          refine q_iclt rfl rfl (fun c38 => absurd c38 (by decide)) (fun c38 => ?_)
          refine q_iload_n rfl rfl rfl ?_
          refine q_iload_n rfl rfl rfl ?_
          refine q_icgt rfl rfl (fun c39 => absurd c39 (by decide)) (fun c39 => ?_)
          refine q_iconst rfl rfl ?_
          refine q_goto rfl ?_
          refine q_iret rfl rfl rfl ?_
          refine ⟨_, rfl, ?_⟩
          refine q_iret rfl rfl rfl ?_
          refine ⟨_, rfl, ?_⟩
          refine q_ifeq rfl rfl (fun c40 => absurd c40 (by decide)) (fun c40 => ?_)
          refine q_iload_n rfl rfl rfl ?_
          refine q_ifeq rfl rfl (fun c41 => ?_) (fun c41 => absurd (by decide) c41)
          refine q_iconst rfl rfl ?_
          refine q_goto rfl ?_
          refine q_ist5 rfl rfl rfl rfl ?_
          refine q_iload rfl rfl rfl ?_
          refine q_ifne rfl rfl (fun c42 => absurd c42 (by decide)) (fun c42 => ?_)
          refine q_aload_n rfl rfl rfl ?_
          refine q_getf rfl rfl (by decide) (FW_46 S hW) rfl ?_
          refine q_iload_n rfl rfl rfl ?_
          refine q_iload_n rfl rfl rfl ?_
          refine q_iast rfl rfl (by decide) (FW_75 S hW) (by decide) ?_
          refine q_aload_n rfl rfl rfl ?_
          refine q_iload_n rfl rfl rfl ?_
          refine q_cV1v rfl rfl (Or.inl rfl) rfl rfl rfl (by decide) (FW_46 S hW) ⟨rfl, rfl⟩ rfl (fun K' hK' => l_clear (D := 2) (by decide) rfl (by decide) (FW_46 S hW) rfl (FW_79 S hW) hK') ?_
          refine q_iload_n rfl rfl rfl ?_
          refine q_iconst rfl rfl ?_
          refine q_icne rfl rfl (fun c43 => absurd c43 (by decide)) (fun c43 => ?_)
          refine q_iload_n rfl rfl rfl ?_
          refine q_iconst rfl rfl ?_
          refine q_icne rfl rfl (fun c44 => absurd c44 (by decide)) (fun c44 => ?_)
          refine q_iload_n rfl rfl rfl ?_
          refine q_iconst rfl rfl ?_
          refine q_icne rfl rfl (fun c45 => absurd c45 (by decide)) (fun c45 => ?_)
          refine q_iconst rfl rfl ?_
          refine q_iret rfl rfl trivial ?_
          refine ⟨_, rfl, ?_⟩
          refine q_iceq rfl rfl (fun c46 => ?_) (fun c46 => absurd (by decide) c46)
          refine q_icc4 (z := 6) rfl rfl rfl rfl rfl ?_
          refine q_goto rfl ?_
          refine q_iload rfl rfl rfl ?_
          refine q_aload_nF rfl rfl rfl ?_
          refine q_alenX (x := 6) rfl rfl rfl ?_
          refine q_bipush rfl rfl ?_
          refine q_isub rfl rfl (q_tn (z := 0) rfl ?_)
          refine q_icgt rfl rfl (fun c47 => ?_) (fun c47 => absurd (by decide) c47)
          refine q_iconst rfl rfl ?_
          refine q_iret rfl rfl rfl ?_
          exact hK _ _
        · refine q_aastN rfl rfl (by decide) (FW_43 S hW) (by decide) ?_
          refine q_iconst rfl rfl ?_
          refine q_iret rfl rfl trivial ?_
          refine ⟨_, rfl, ?_⟩
          refine q_aload_n rfl rfl rfl ?_
          refine q_aload_nF rfl rfl rfl ?_
          refine q_iload rfl rfl rfl ?_
          refine q_iconst rfl rfl ?_
          refine q_iadd rfl rfl (q_tn (z := 1) rfl ?_)
          refine q_ialdX (x := 3) rfl rfl rfl hx1 ?_
          refine q_aload_nF rfl rfl rfl ?_
          refine q_iload rfl rfl rfl ?_
          refine q_iconst rfl rfl ?_
          refine q_iadd rfl rfl (q_tn (z := 2) rfl ?_)
          refine q_ialdX (x := 0) rfl rfl rfl hx2 ?_
          refine q_aload_nF rfl rfl rfl ?_
          refine q_iload rfl rfl rfl ?_
          refine q_iconst rfl rfl ?_
          refine q_iadd rfl rfl (q_tn (z := 3) rfl ?_)
          refine q_ialdX (x := x3) rfl rfl rfl hx3 ?_
          refine q_aload_nF rfl rfl rfl ?_
          refine q_iload rfl rfl rfl ?_
          refine q_iconst rfl rfl ?_
          refine q_iadd rfl rfl (q_tn (z := 4) rfl ?_)
          refine q_ialdX (x := x4) rfl rfl rfl hx4 ?_
          refine q_nV4 rfl rfl (Or.inl rfl) rfl rfl rfl (by decide) (FW_46 S hW) ⟨rfl, rfl⟩ rfl ?_
          change PQ _ _ _ mm_X12_keep 0 [.ref 46, .int 3, .int 0, .int x3, .int x4, pm_un, pm_un] [] _ _ 0 0 _
          refine q_aload_n rfl rfl rfl ?_
          refine q_iload_n rfl rfl rfl ?_
          refine q_nV1 rfl rfl (Or.inl rfl) rfl rfl rfl (by decide) (FW_46 S hW) ⟨rfl, rfl⟩ rfl ?_
          change PQ _ _ _ mm_X12_isShelf 0 [.ref 46, .int 3] [] _ _ 0 0 _
          refine q_aload_n rfl rfl rfl ?_
          refine q_iload_n rfl rfl rfl ?_
          refine q_iconst rfl rfl ?_
          refine q_bipush rfl rfl ?_
          refine q_nV3 rfl rfl (Or.inl rfl) rfl rfl rfl (by decide) (FW_46 S hW) ⟨rfl, rfl⟩ rfl ?_
          change PQ _ _ _ mm_X12_in 0 [.ref 46, .int 3, .int 0, .int 7] [] _ _ 0 0 _
          refine q_iload_n rfl rfl rfl ?_
          refine q_iload_n rfl rfl rfl ?_
          refine q_iclt rfl rfl (fun c48 => absurd c48 (by decide)) (fun c48 => ?_)
          refine q_iload_n rfl rfl rfl ?_
          refine q_iload_n rfl rfl rfl ?_
          refine q_icgt rfl rfl (fun c49 => absurd c49 (by decide)) (fun c49 => ?_)
          refine q_iconst rfl rfl ?_
          refine q_goto rfl ?_
          refine q_iret rfl rfl rfl ?_
          refine ⟨_, rfl, ?_⟩
          refine q_iret rfl rfl rfl ?_
          refine ⟨_, rfl, ?_⟩
          refine q_ifeq rfl rfl (fun c50 => absurd c50 (by decide)) (fun c50 => ?_)
          refine q_iload_n rfl rfl rfl ?_
          refine q_ifeq rfl rfl (fun c51 => ?_) (fun c51 => absurd (by decide) c51)
          refine q_iconst rfl rfl ?_
          refine q_goto rfl ?_
          refine q_ist5 rfl rfl rfl rfl ?_
          refine q_iload rfl rfl rfl ?_
          refine q_ifne rfl rfl (fun c52 => absurd c52 (by decide)) (fun c52 => ?_)
          refine q_aload_n rfl rfl rfl ?_
          refine q_getf rfl rfl (by decide) (FW_46 S hW) rfl ?_
          refine q_iload_n rfl rfl rfl ?_
          refine q_iload_n rfl rfl rfl ?_
          refine q_iast rfl rfl (by decide) (FW_75 S hW) (by decide) ?_
          refine q_aload_n rfl rfl rfl ?_
          refine q_iload_n rfl rfl rfl ?_
          refine q_cV1v rfl rfl (Or.inl rfl) rfl rfl rfl (by decide) (FW_46 S hW) ⟨rfl, rfl⟩ rfl (fun K' hK' => l_clear (D := 3) (by decide) rfl (by decide) (FW_46 S hW) rfl (FW_79 S hW) hK') ?_
          refine q_iload_n rfl rfl rfl ?_
          refine q_iconst rfl rfl ?_
          refine q_icne rfl rfl (fun c53 => absurd c53 (by decide)) (fun c53 => ?_)
          refine q_iload_n rfl rfl rfl ?_
          refine q_iconst rfl rfl ?_
          refine q_icne rfl rfl (fun c54 => absurd c54 (by decide)) (fun c54 => ?_)
          refine q_iload_n rfl rfl rfl ?_
          refine q_iconst rfl rfl ?_
          refine q_icne rfl rfl (fun c55 => absurd c55 (by decide)) (fun c55 => ?_)
          refine q_iconst rfl rfl ?_
          refine q_iret rfl rfl trivial ?_
          refine ⟨_, rfl, ?_⟩
          refine q_iceq rfl rfl (fun c56 => ?_) (fun c56 => absurd (by decide) c56)
          refine q_icc4 (z := 6) rfl rfl rfl rfl rfl ?_
          refine q_goto rfl ?_
          refine q_iload rfl rfl rfl ?_
          refine q_aload_nF rfl rfl rfl ?_
          refine q_alenX (x := 6) rfl rfl rfl ?_
          refine q_bipush rfl rfl ?_
          refine q_isub rfl rfl (q_tn (z := 0) rfl ?_)
          refine q_icgt rfl rfl (fun c57 => ?_) (fun c57 => absurd (by decide) c57)
          refine q_iconst rfl rfl ?_
          refine q_iret rfl rfl rfl ?_
          exact hK _ _
        · refine q_aastN rfl rfl (by decide) (FW_43 S hW) (by decide) ?_
          refine q_iconst rfl rfl ?_
          refine q_iret rfl rfl trivial ?_
          refine ⟨_, rfl, ?_⟩
          refine q_aload_n rfl rfl rfl ?_
          refine q_aload_nF rfl rfl rfl ?_
          refine q_iload rfl rfl rfl ?_
          refine q_iconst rfl rfl ?_
          refine q_iadd rfl rfl (q_tn (z := 1) rfl ?_)
          refine q_ialdX (x := 4) rfl rfl rfl hx1 ?_
          refine q_aload_nF rfl rfl rfl ?_
          refine q_iload rfl rfl rfl ?_
          refine q_iconst rfl rfl ?_
          refine q_iadd rfl rfl (q_tn (z := 2) rfl ?_)
          refine q_ialdX (x := 0) rfl rfl rfl hx2 ?_
          refine q_aload_nF rfl rfl rfl ?_
          refine q_iload rfl rfl rfl ?_
          refine q_iconst rfl rfl ?_
          refine q_iadd rfl rfl (q_tn (z := 3) rfl ?_)
          refine q_ialdX (x := x3) rfl rfl rfl hx3 ?_
          refine q_aload_nF rfl rfl rfl ?_
          refine q_iload rfl rfl rfl ?_
          refine q_iconst rfl rfl ?_
          refine q_iadd rfl rfl (q_tn (z := 4) rfl ?_)
          refine q_ialdX (x := x4) rfl rfl rfl hx4 ?_
          refine q_nV4 rfl rfl (Or.inl rfl) rfl rfl rfl (by decide) (FW_46 S hW) ⟨rfl, rfl⟩ rfl ?_
          change PQ _ _ _ mm_X12_keep 0 [.ref 46, .int 4, .int 0, .int x3, .int x4, pm_un, pm_un] [] _ _ 0 0 _
          refine q_aload_n rfl rfl rfl ?_
          refine q_iload_n rfl rfl rfl ?_
          refine q_nV1 rfl rfl (Or.inl rfl) rfl rfl rfl (by decide) (FW_46 S hW) ⟨rfl, rfl⟩ rfl ?_
          change PQ _ _ _ mm_X12_isShelf 0 [.ref 46, .int 4] [] _ _ 0 0 _
          refine q_aload_n rfl rfl rfl ?_
          refine q_iload_n rfl rfl rfl ?_
          refine q_iconst rfl rfl ?_
          refine q_bipush rfl rfl ?_
          refine q_nV3 rfl rfl (Or.inl rfl) rfl rfl rfl (by decide) (FW_46 S hW) ⟨rfl, rfl⟩ rfl ?_
          change PQ _ _ _ mm_X12_in 0 [.ref 46, .int 4, .int 0, .int 7] [] _ _ 0 0 _
          refine q_iload_n rfl rfl rfl ?_
          refine q_iload_n rfl rfl rfl ?_
          refine q_iclt rfl rfl (fun c58 => absurd c58 (by decide)) (fun c58 => ?_)
          refine q_iload_n rfl rfl rfl ?_
          refine q_iload_n rfl rfl rfl ?_
          refine q_icgt rfl rfl (fun c59 => absurd c59 (by decide)) (fun c59 => ?_)
          refine q_iconst rfl rfl ?_
          refine q_goto rfl ?_
          refine q_iret rfl rfl rfl ?_
          refine ⟨_, rfl, ?_⟩
          refine q_iret rfl rfl rfl ?_
          refine ⟨_, rfl, ?_⟩
          refine q_ifeq rfl rfl (fun c60 => absurd c60 (by decide)) (fun c60 => ?_)
          refine q_iload_n rfl rfl rfl ?_
          refine q_ifeq rfl rfl (fun c61 => ?_) (fun c61 => absurd (by decide) c61)
          refine q_iconst rfl rfl ?_
          refine q_goto rfl ?_
          refine q_ist5 rfl rfl rfl rfl ?_
          refine q_iload rfl rfl rfl ?_
          refine q_ifne rfl rfl (fun c62 => absurd c62 (by decide)) (fun c62 => ?_)
          refine q_aload_n rfl rfl rfl ?_
          refine q_getf rfl rfl (by decide) (FW_46 S hW) rfl ?_
          refine q_iload_n rfl rfl rfl ?_
          refine q_iload_n rfl rfl rfl ?_
          refine q_iast rfl rfl (by decide) (FW_75 S hW) (by decide) ?_
          refine q_aload_n rfl rfl rfl ?_
          refine q_iload_n rfl rfl rfl ?_
          refine q_cV1v rfl rfl (Or.inl rfl) rfl rfl rfl (by decide) (FW_46 S hW) ⟨rfl, rfl⟩ rfl (fun K' hK' => l_clear (D := 4) (by decide) rfl (by decide) (FW_46 S hW) rfl (FW_79 S hW) hK') ?_
          refine q_iload_n rfl rfl rfl ?_
          refine q_iconst rfl rfl ?_
          refine q_icne rfl rfl (fun c63 => absurd c63 (by decide)) (fun c63 => ?_)
          refine q_iload_n rfl rfl rfl ?_
          refine q_iconst rfl rfl ?_
          refine q_icne rfl rfl (fun c64 => absurd c64 (by decide)) (fun c64 => ?_)
          refine q_iload_n rfl rfl rfl ?_
          refine q_iconst rfl rfl ?_
          refine q_icne rfl rfl (fun c65 => absurd c65 (by decide)) (fun c65 => ?_)
          refine q_iconst rfl rfl ?_
          refine q_iret rfl rfl trivial ?_
          refine ⟨_, rfl, ?_⟩
          refine q_iceq rfl rfl (fun c66 => ?_) (fun c66 => absurd (by decide) c66)
          refine q_icc4 (z := 6) rfl rfl rfl rfl rfl ?_
          refine q_goto rfl ?_
          refine q_iload rfl rfl rfl ?_
          refine q_aload_nF rfl rfl rfl ?_
          refine q_alenX (x := 6) rfl rfl rfl ?_
          refine q_bipush rfl rfl ?_
          refine q_isub rfl rfl (q_tn (z := 0) rfl ?_)
          refine q_icgt rfl rfl (fun c67 => ?_) (fun c67 => absurd (by decide) c67)
          refine q_iconst rfl rfl ?_
          refine q_iret rfl rfl rfl ?_
          exact hK _ _
        · refine q_aastN rfl rfl (by decide) (FW_43 S hW) (by decide) ?_
          refine q_iconst rfl rfl ?_
          refine q_iret rfl rfl trivial ?_
          refine ⟨_, rfl, ?_⟩
          refine q_aload_n rfl rfl rfl ?_
          refine q_aload_nF rfl rfl rfl ?_
          refine q_iload rfl rfl rfl ?_
          refine q_iconst rfl rfl ?_
          refine q_iadd rfl rfl (q_tn (z := 1) rfl ?_)
          refine q_ialdX (x := 5) rfl rfl rfl hx1 ?_
          refine q_aload_nF rfl rfl rfl ?_
          refine q_iload rfl rfl rfl ?_
          refine q_iconst rfl rfl ?_
          refine q_iadd rfl rfl (q_tn (z := 2) rfl ?_)
          refine q_ialdX (x := 0) rfl rfl rfl hx2 ?_
          refine q_aload_nF rfl rfl rfl ?_
          refine q_iload rfl rfl rfl ?_
          refine q_iconst rfl rfl ?_
          refine q_iadd rfl rfl (q_tn (z := 3) rfl ?_)
          refine q_ialdX (x := x3) rfl rfl rfl hx3 ?_
          refine q_aload_nF rfl rfl rfl ?_
          refine q_iload rfl rfl rfl ?_
          refine q_iconst rfl rfl ?_
          refine q_iadd rfl rfl (q_tn (z := 4) rfl ?_)
          refine q_ialdX (x := x4) rfl rfl rfl hx4 ?_
          refine q_nV4 rfl rfl (Or.inl rfl) rfl rfl rfl (by decide) (FW_46 S hW) ⟨rfl, rfl⟩ rfl ?_
          change PQ _ _ _ mm_X12_keep 0 [.ref 46, .int 5, .int 0, .int x3, .int x4, pm_un, pm_un] [] _ _ 0 0 _
          refine q_aload_n rfl rfl rfl ?_
          refine q_iload_n rfl rfl rfl ?_
          refine q_nV1 rfl rfl (Or.inl rfl) rfl rfl rfl (by decide) (FW_46 S hW) ⟨rfl, rfl⟩ rfl ?_
          change PQ _ _ _ mm_X12_isShelf 0 [.ref 46, .int 5] [] _ _ 0 0 _
          refine q_aload_n rfl rfl rfl ?_
          refine q_iload_n rfl rfl rfl ?_
          refine q_iconst rfl rfl ?_
          refine q_bipush rfl rfl ?_
          refine q_nV3 rfl rfl (Or.inl rfl) rfl rfl rfl (by decide) (FW_46 S hW) ⟨rfl, rfl⟩ rfl ?_
          change PQ _ _ _ mm_X12_in 0 [.ref 46, .int 5, .int 0, .int 7] [] _ _ 0 0 _
          refine q_iload_n rfl rfl rfl ?_
          refine q_iload_n rfl rfl rfl ?_
          refine q_iclt rfl rfl (fun c68 => absurd c68 (by decide)) (fun c68 => ?_)
          refine q_iload_n rfl rfl rfl ?_
          refine q_iload_n rfl rfl rfl ?_
          refine q_icgt rfl rfl (fun c69 => absurd c69 (by decide)) (fun c69 => ?_)
          refine q_iconst rfl rfl ?_
          refine q_goto rfl ?_
          refine q_iret rfl rfl rfl ?_
          refine ⟨_, rfl, ?_⟩
          refine q_iret rfl rfl rfl ?_
          refine ⟨_, rfl, ?_⟩
          refine q_ifeq rfl rfl (fun c70 => absurd c70 (by decide)) (fun c70 => ?_)
          refine q_iload_n rfl rfl rfl ?_
          refine q_ifeq rfl rfl (fun c71 => ?_) (fun c71 => absurd (by decide) c71)
          refine q_iconst rfl rfl ?_
          refine q_goto rfl ?_
          refine q_ist5 rfl rfl rfl rfl ?_
          refine q_iload rfl rfl rfl ?_
          refine q_ifne rfl rfl (fun c72 => absurd c72 (by decide)) (fun c72 => ?_)
          refine q_aload_n rfl rfl rfl ?_
          refine q_getf rfl rfl (by decide) (FW_46 S hW) rfl ?_
          refine q_iload_n rfl rfl rfl ?_
          refine q_iload_n rfl rfl rfl ?_
          refine q_iast rfl rfl (by decide) (FW_75 S hW) (by decide) ?_
          refine q_aload_n rfl rfl rfl ?_
          refine q_iload_n rfl rfl rfl ?_
          refine q_cV1v rfl rfl (Or.inl rfl) rfl rfl rfl (by decide) (FW_46 S hW) ⟨rfl, rfl⟩ rfl (fun K' hK' => l_clear (D := 5) (by decide) rfl (by decide) (FW_46 S hW) rfl (FW_79 S hW) hK') ?_
          refine q_iload_n rfl rfl rfl ?_
          refine q_iconst rfl rfl ?_
          refine q_icne rfl rfl (fun c73 => absurd c73 (by decide)) (fun c73 => ?_)
          refine q_iload_n rfl rfl rfl ?_
          refine q_iconst rfl rfl ?_
          refine q_icne rfl rfl (fun c74 => absurd c74 (by decide)) (fun c74 => ?_)
          refine q_iload_n rfl rfl rfl ?_
          refine q_iconst rfl rfl ?_
          refine q_icne rfl rfl (fun c75 => absurd c75 (by decide)) (fun c75 => ?_)
          refine q_iconst rfl rfl ?_
          refine q_iret rfl rfl trivial ?_
          refine ⟨_, rfl, ?_⟩
          refine q_iceq rfl rfl (fun c76 => ?_) (fun c76 => absurd (by decide) c76)
          refine q_icc4 (z := 6) rfl rfl rfl rfl rfl ?_
          refine q_goto rfl ?_
          refine q_iload rfl rfl rfl ?_
          refine q_aload_nF rfl rfl rfl ?_
          refine q_alenX (x := 6) rfl rfl rfl ?_
          refine q_bipush rfl rfl ?_
          refine q_isub rfl rfl (q_tn (z := 0) rfl ?_)
          refine q_icgt rfl rfl (fun c77 => ?_) (fun c77 => absurd (by decide) c77)
          refine q_iconst rfl rfl ?_
          refine q_iret rfl rfl rfl ?_
          exact hK _ _
        · refine q_aastN rfl rfl (by decide) (FW_43 S hW) (by decide) ?_
          refine q_iconst rfl rfl ?_
          refine q_iret rfl rfl trivial ?_
          refine ⟨_, rfl, ?_⟩
          refine q_aload_n rfl rfl rfl ?_
          refine q_aload_nF rfl rfl rfl ?_
          refine q_iload rfl rfl rfl ?_
          refine q_iconst rfl rfl ?_
          refine q_iadd rfl rfl (q_tn (z := 1) rfl ?_)
          refine q_ialdX (x := 6) rfl rfl rfl hx1 ?_
          refine q_aload_nF rfl rfl rfl ?_
          refine q_iload rfl rfl rfl ?_
          refine q_iconst rfl rfl ?_
          refine q_iadd rfl rfl (q_tn (z := 2) rfl ?_)
          refine q_ialdX (x := 0) rfl rfl rfl hx2 ?_
          refine q_aload_nF rfl rfl rfl ?_
          refine q_iload rfl rfl rfl ?_
          refine q_iconst rfl rfl ?_
          refine q_iadd rfl rfl (q_tn (z := 3) rfl ?_)
          refine q_ialdX (x := x3) rfl rfl rfl hx3 ?_
          refine q_aload_nF rfl rfl rfl ?_
          refine q_iload rfl rfl rfl ?_
          refine q_iconst rfl rfl ?_
          refine q_iadd rfl rfl (q_tn (z := 4) rfl ?_)
          refine q_ialdX (x := x4) rfl rfl rfl hx4 ?_
          refine q_nV4 rfl rfl (Or.inl rfl) rfl rfl rfl (by decide) (FW_46 S hW) ⟨rfl, rfl⟩ rfl ?_
          change PQ _ _ _ mm_X12_keep 0 [.ref 46, .int 6, .int 0, .int x3, .int x4, pm_un, pm_un] [] _ _ 0 0 _
          refine q_aload_n rfl rfl rfl ?_
          refine q_iload_n rfl rfl rfl ?_
          refine q_nV1 rfl rfl (Or.inl rfl) rfl rfl rfl (by decide) (FW_46 S hW) ⟨rfl, rfl⟩ rfl ?_
          change PQ _ _ _ mm_X12_isShelf 0 [.ref 46, .int 6] [] _ _ 0 0 _
          refine q_aload_n rfl rfl rfl ?_
          refine q_iload_n rfl rfl rfl ?_
          refine q_iconst rfl rfl ?_
          refine q_bipush rfl rfl ?_
          refine q_nV3 rfl rfl (Or.inl rfl) rfl rfl rfl (by decide) (FW_46 S hW) ⟨rfl, rfl⟩ rfl ?_
          change PQ _ _ _ mm_X12_in 0 [.ref 46, .int 6, .int 0, .int 7] [] _ _ 0 0 _
          refine q_iload_n rfl rfl rfl ?_
          refine q_iload_n rfl rfl rfl ?_
          refine q_iclt rfl rfl (fun c78 => absurd c78 (by decide)) (fun c78 => ?_)
          refine q_iload_n rfl rfl rfl ?_
          refine q_iload_n rfl rfl rfl ?_
          refine q_icgt rfl rfl (fun c79 => absurd c79 (by decide)) (fun c79 => ?_)
          refine q_iconst rfl rfl ?_
          refine q_goto rfl ?_
          refine q_iret rfl rfl rfl ?_
          refine ⟨_, rfl, ?_⟩
          refine q_iret rfl rfl rfl ?_
          refine ⟨_, rfl, ?_⟩
          refine q_ifeq rfl rfl (fun c80 => absurd c80 (by decide)) (fun c80 => ?_)
          refine q_iload_n rfl rfl rfl ?_
          refine q_ifeq rfl rfl (fun c81 => ?_) (fun c81 => absurd (by decide) c81)
          refine q_iconst rfl rfl ?_
          refine q_goto rfl ?_
          refine q_ist5 rfl rfl rfl rfl ?_
          refine q_iload rfl rfl rfl ?_
          refine q_ifne rfl rfl (fun c82 => absurd c82 (by decide)) (fun c82 => ?_)
          refine q_aload_n rfl rfl rfl ?_
          refine q_getf rfl rfl (by decide) (FW_46 S hW) rfl ?_
          refine q_iload_n rfl rfl rfl ?_
          refine q_iload_n rfl rfl rfl ?_
          refine q_iast rfl rfl (by decide) (FW_75 S hW) (by decide) ?_
          refine q_aload_n rfl rfl rfl ?_
          refine q_iload_n rfl rfl rfl ?_
          refine q_cV1v rfl rfl (Or.inl rfl) rfl rfl rfl (by decide) (FW_46 S hW) ⟨rfl, rfl⟩ rfl (fun K' hK' => l_clear (D := 6) (by decide) rfl (by decide) (FW_46 S hW) rfl (FW_79 S hW) hK') ?_
          refine q_iload_n rfl rfl rfl ?_
          refine q_iconst rfl rfl ?_
          refine q_icne rfl rfl (fun c83 => absurd c83 (by decide)) (fun c83 => ?_)
          refine q_iload_n rfl rfl rfl ?_
          refine q_iconst rfl rfl ?_
          refine q_icne rfl rfl (fun c84 => absurd c84 (by decide)) (fun c84 => ?_)
          refine q_iload_n rfl rfl rfl ?_
          refine q_iconst rfl rfl ?_
          refine q_icne rfl rfl (fun c85 => absurd c85 (by decide)) (fun c85 => ?_)
          refine q_iconst rfl rfl ?_
          refine q_iret rfl rfl trivial ?_
          refine ⟨_, rfl, ?_⟩
          refine q_iceq rfl rfl (fun c86 => ?_) (fun c86 => absurd (by decide) c86)
          refine q_icc4 (z := 6) rfl rfl rfl rfl rfl ?_
          refine q_goto rfl ?_
          refine q_iload rfl rfl rfl ?_
          refine q_aload_nF rfl rfl rfl ?_
          refine q_alenX (x := 6) rfl rfl rfl ?_
          refine q_bipush rfl rfl ?_
          refine q_isub rfl rfl (q_tn (z := 0) rfl ?_)
          refine q_icgt rfl rfl (fun c87 => ?_) (fun c87 => absurd (by decide) c87)
          refine q_iconst rfl rfl ?_
          refine q_iret rfl rfl rfl ?_
          exact hK _ _
        · refine q_aastN rfl rfl (by decide) (FW_43 S hW) (by decide) ?_
          refine q_iconst rfl rfl ?_
          refine q_iret rfl rfl trivial ?_
          refine ⟨_, rfl, ?_⟩
          refine q_aload_n rfl rfl rfl ?_
          refine q_aload_nF rfl rfl rfl ?_
          refine q_iload rfl rfl rfl ?_
          refine q_iconst rfl rfl ?_
          refine q_iadd rfl rfl (q_tn (z := 1) rfl ?_)
          refine q_ialdX (x := 7) rfl rfl rfl hx1 ?_
          refine q_aload_nF rfl rfl rfl ?_
          refine q_iload rfl rfl rfl ?_
          refine q_iconst rfl rfl ?_
          refine q_iadd rfl rfl (q_tn (z := 2) rfl ?_)
          refine q_ialdX (x := 0) rfl rfl rfl hx2 ?_
          refine q_aload_nF rfl rfl rfl ?_
          refine q_iload rfl rfl rfl ?_
          refine q_iconst rfl rfl ?_
          refine q_iadd rfl rfl (q_tn (z := 3) rfl ?_)
          refine q_ialdX (x := x3) rfl rfl rfl hx3 ?_
          refine q_aload_nF rfl rfl rfl ?_
          refine q_iload rfl rfl rfl ?_
          refine q_iconst rfl rfl ?_
          refine q_iadd rfl rfl (q_tn (z := 4) rfl ?_)
          refine q_ialdX (x := x4) rfl rfl rfl hx4 ?_
          refine q_nV4 rfl rfl (Or.inl rfl) rfl rfl rfl (by decide) (FW_46 S hW) ⟨rfl, rfl⟩ rfl ?_
          change PQ _ _ _ mm_X12_keep 0 [.ref 46, .int 7, .int 0, .int x3, .int x4, pm_un, pm_un] [] _ _ 0 0 _
          refine q_aload_n rfl rfl rfl ?_
          refine q_iload_n rfl rfl rfl ?_
          refine q_nV1 rfl rfl (Or.inl rfl) rfl rfl rfl (by decide) (FW_46 S hW) ⟨rfl, rfl⟩ rfl ?_
          change PQ _ _ _ mm_X12_isShelf 0 [.ref 46, .int 7] [] _ _ 0 0 _
          refine q_aload_n rfl rfl rfl ?_
          refine q_iload_n rfl rfl rfl ?_
          refine q_iconst rfl rfl ?_
          refine q_bipush rfl rfl ?_
          refine q_nV3 rfl rfl (Or.inl rfl) rfl rfl rfl (by decide) (FW_46 S hW) ⟨rfl, rfl⟩ rfl ?_
          change PQ _ _ _ mm_X12_in 0 [.ref 46, .int 7, .int 0, .int 7] [] _ _ 0 0 _
          refine q_iload_n rfl rfl rfl ?_
          refine q_iload_n rfl rfl rfl ?_
          refine q_iclt rfl rfl (fun c88 => absurd c88 (by decide)) (fun c88 => ?_)
          refine q_iload_n rfl rfl rfl ?_
          refine q_iload_n rfl rfl rfl ?_
          refine q_icgt rfl rfl (fun c89 => absurd c89 (by decide)) (fun c89 => ?_)
          refine q_iconst rfl rfl ?_
          refine q_goto rfl ?_
          refine q_iret rfl rfl rfl ?_
          refine ⟨_, rfl, ?_⟩
          refine q_iret rfl rfl rfl ?_
          refine ⟨_, rfl, ?_⟩
          refine q_ifeq rfl rfl (fun c90 => absurd c90 (by decide)) (fun c90 => ?_)
          refine q_iload_n rfl rfl rfl ?_
          refine q_ifeq rfl rfl (fun c91 => ?_) (fun c91 => absurd (by decide) c91)
          refine q_iconst rfl rfl ?_
          refine q_goto rfl ?_
          refine q_ist5 rfl rfl rfl rfl ?_
          refine q_iload rfl rfl rfl ?_
          refine q_ifne rfl rfl (fun c92 => absurd c92 (by decide)) (fun c92 => ?_)
          refine q_aload_n rfl rfl rfl ?_
          refine q_getf rfl rfl (by decide) (FW_46 S hW) rfl ?_
          refine q_iload_n rfl rfl rfl ?_
          refine q_iload_n rfl rfl rfl ?_
          refine q_iast rfl rfl (by decide) (FW_75 S hW) (by decide) ?_
          refine q_aload_n rfl rfl rfl ?_
          refine q_iload_n rfl rfl rfl ?_
          refine q_cV1v rfl rfl (Or.inl rfl) rfl rfl rfl (by decide) (FW_46 S hW) ⟨rfl, rfl⟩ rfl (fun K' hK' => l_clear (D := 7) (by decide) rfl (by decide) (FW_46 S hW) rfl (FW_79 S hW) hK') ?_
          refine q_iload_n rfl rfl rfl ?_
          refine q_iconst rfl rfl ?_
          refine q_icne rfl rfl (fun c93 => absurd c93 (by decide)) (fun c93 => ?_)
          refine q_iload_n rfl rfl rfl ?_
          refine q_iconst rfl rfl ?_
          refine q_icne rfl rfl (fun c94 => absurd c94 (by decide)) (fun c94 => ?_)
          refine q_iload_n rfl rfl rfl ?_
          refine q_iconst rfl rfl ?_
          refine q_icne rfl rfl (fun c95 => absurd c95 (by decide)) (fun c95 => ?_)
          refine q_iconst rfl rfl ?_
          refine q_iret rfl rfl trivial ?_
          refine ⟨_, rfl, ?_⟩
          refine q_iceq rfl rfl (fun c96 => ?_) (fun c96 => absurd (by decide) c96)
          refine q_icc4 (z := 6) rfl rfl rfl rfl rfl ?_
          refine q_goto rfl ?_
          refine q_iload rfl rfl rfl ?_
          refine q_aload_nF rfl rfl rfl ?_
          refine q_alenX (x := 6) rfl rfl rfl ?_
          refine q_bipush rfl rfl ?_
          refine q_isub rfl rfl (q_tn (z := 0) rfl ?_)
          refine q_icgt rfl rfl (fun c97 => ?_) (fun c97 => absurd (by decide) c97)
          refine q_iconst rfl rfl ?_
          refine q_iret rfl rfl rfl ?_
          exact hK _ _
      · refine q_iload_n rfl rfl rfl ?_
        refine q_iconst rfl rfl ?_
        refine q_icne rfl rfl (fun c98 => ?_) (fun c98 => ?_)
        · subst c98
          refine q_aload_n rfl rfl rfl ?_
          refine q_getf rfl rfl (by decide) (FW_0 S hW) rfl ?_
          refine q_iload_n rfl rfl rfl ?_
          refine q_iload rfl rfl rfl ?_
          refine q_nV2 rfl rfl (Or.inl rfl) rfl rfl rfl (by decide) (FW_1 S hW) ⟨rfl, rfl⟩ rfl ?_
          change PQ _ _ _ mm_X8_hasStatement 0 [.ref 1, .int x3, .int x4] [] _ _ 0 0 _
          refine q_iload_n rfl rfl rfl ?_
          refine q_iflt rfl rfl (fun c99 => ?_) (fun c99 => ?_)
          · refine q_iconst rfl rfl ?_
            refine q_iret rfl rfl rfl ?_
            refine ⟨_, rfl, ?_⟩
            refine q_ifeq rfl rfl (fun c100 => ?_) (fun c100 => absurd (by decide) c100)
            refine q_iload_n rfl rfl rfl ?_
            refine q_iconst rfl rfl ?_
            refine q_icne rfl rfl (fun c101 => absurd c101 (by decide)) (fun c101 => ?_)
            refine q_iload_n rfl rfl rfl ?_
            refine q_iconst rfl rfl ?_
            refine q_icne rfl rfl (fun c102 => absurd c102 (by decide)) (fun c102 => ?_)
            refine q_iconst rfl rfl ?_
            refine q_iret rfl rfl trivial ?_
            refine ⟨_, rfl, ?_⟩
            refine q_aload_n rfl rfl rfl ?_
            refine q_aload_nF rfl rfl rfl ?_
            refine q_iload rfl rfl rfl ?_
            refine q_iconst rfl rfl ?_
            refine q_iadd rfl rfl (q_tn (z := 1) rfl ?_)
            refine q_ialdX (x := x1) rfl rfl rfl hx1 ?_
            refine q_aload_nF rfl rfl rfl ?_
            refine q_iload rfl rfl rfl ?_
            refine q_iconst rfl rfl ?_
            refine q_iadd rfl rfl (q_tn (z := 2) rfl ?_)
            refine q_ialdX (x := 1) rfl rfl rfl hx2 ?_
            refine q_aload_nF rfl rfl rfl ?_
            refine q_iload rfl rfl rfl ?_
            refine q_iconst rfl rfl ?_
            refine q_iadd rfl rfl (q_tn (z := 3) rfl ?_)
            refine q_ialdX (x := x3) rfl rfl rfl hx3 ?_
            refine q_aload_nF rfl rfl rfl ?_
            refine q_iload rfl rfl rfl ?_
            refine q_iconst rfl rfl ?_
            refine q_iadd rfl rfl (q_tn (z := 4) rfl ?_)
            refine q_ialdX (x := x4) rfl rfl rfl hx4 ?_
            refine q_nV4 rfl rfl (Or.inl rfl) rfl rfl rfl (by decide) (FW_46 S hW) ⟨rfl, rfl⟩ rfl ?_
            change PQ _ _ _ mm_X12_keep 0 [.ref 46, .int x1, .int 1, .int x3, .int x4, pm_un, pm_un] [] _ _ 0 0 _
            refine q_aload_n rfl rfl rfl ?_
            refine q_iload_n rfl rfl rfl ?_
            refine q_nV1 rfl rfl (Or.inl rfl) rfl rfl rfl (by decide) (FW_46 S hW) ⟨rfl, rfl⟩ rfl ?_
            change PQ _ _ _ mm_X12_isShelf 0 [.ref 46, .int x1] [] _ _ 0 0 _
            refine q_aload_n rfl rfl rfl ?_
            refine q_iload_n rfl rfl rfl ?_
            refine q_iconst rfl rfl ?_
            refine q_bipush rfl rfl ?_
            refine q_nV3 rfl rfl (Or.inl rfl) rfl rfl rfl (by decide) (FW_46 S hW) ⟨rfl, rfl⟩ rfl ?_
            change PQ _ _ _ mm_X12_in 0 [.ref 46, .int x1, .int 0, .int 7] [] _ _ 0 0 _
            refine q_iload_n rfl rfl rfl ?_
            refine q_iload_n rfl rfl rfl ?_
            refine q_iclt rfl rfl (fun c103 => absurd c103 (i_lt_f (i_nlt c1) rfl)) (fun c103 => ?_)
            refine q_iload_n rfl rfl rfl ?_
            refine q_iload_n rfl rfl rfl ?_
            refine q_icgt rfl rfl (fun c104 => absurd c104 (i_gt_f (i_ltle (i_nle c8) (B := 7) rfl) rfl)) (fun c104 => ?_)
            refine q_iconst rfl rfl ?_
            refine q_goto rfl ?_
            refine q_iret rfl rfl rfl ?_
            refine ⟨_, rfl, ?_⟩
            refine q_iret rfl rfl rfl ?_
            refine ⟨_, rfl, ?_⟩
            refine q_ifeq rfl rfl (fun c105 => absurd c105 (by decide)) (fun c105 => ?_)
            refine q_iload_n rfl rfl rfl ?_
            refine q_ifeq rfl rfl (fun c106 => absurd c106 (by decide)) (fun c106 => ?_)
            refine q_iload_n rfl rfl rfl ?_
            refine q_iconst rfl rfl ?_
            refine q_iceq rfl rfl (fun c107 => absurd c107 (by decide)) (fun c107 => ?_)
            refine q_iload_n rfl rfl rfl ?_
            refine q_iconst rfl rfl ?_
            refine q_icne rfl rfl (fun c108 => ?_) (fun c108 => absurd (by decide) c108)
            refine q_aload_n rfl rfl rfl ?_
            refine q_iload_n rfl rfl rfl ?_
            refine q_nV1 rfl rfl (Or.inl rfl) rfl rfl rfl (by decide) (FW_46 S hW) ⟨rfl, rfl⟩ rfl ?_
            change PQ _ _ _ mm_X12_isHand 0 [.ref 46, .int x3] [] _ _ 0 0 _
            refine q_aload_n rfl rfl rfl ?_
            refine q_iload_n rfl rfl rfl ?_
            refine q_iconst rfl rfl ?_
            refine q_aload_n rfl rfl rfl ?_
            refine q_getf rfl rfl (by decide) (FW_46 S hW) rfl ?_
            refine q_iconst rfl rfl ?_
            refine q_isub rfl rfl (q_tn (z := 0) rfl ?_)
            refine q_nV3 rfl rfl (Or.inl rfl) rfl rfl rfl (by decide) (FW_46 S hW) ⟨rfl, rfl⟩ rfl ?_
            change PQ _ _ _ mm_X12_in 0 [.ref 46, .int x3, .int 0, .int 0] [] _ _ 0 0 _
            refine q_iload_n rfl rfl rfl ?_
            refine q_iload_n rfl rfl rfl ?_
            refine q_iclt rfl rfl (fun c109 => ?_) (fun c109 => absurd (i_lt_t (i_ltle c99 (B := (-1)) rfl) rfl) c109)
            refine q_iconst rfl rfl ?_
            refine q_iret rfl rfl rfl ?_
            refine ⟨_, rfl, ?_⟩
            refine q_iret rfl rfl rfl ?_
            refine ⟨_, rfl, ?_⟩
            refine q_ifeq rfl rfl (fun c110 => ?_) (fun c110 => absurd (by decide) c110)
            refine q_iload_n rfl rfl rfl ?_
            refine q_iconst rfl rfl ?_
            refine q_icne rfl rfl (fun c111 => absurd c111 (by decide)) (fun c111 => ?_)
            refine q_iconst rfl rfl ?_
            refine q_ist5 rfl rfl rfl rfl ?_
            refine q_iload rfl rfl rfl ?_
            refine q_ifne rfl rfl (fun c112 => ?_) (fun c112 => absurd (by decide) c112)
            refine q_iconst rfl rfl ?_
            refine q_iret rfl rfl trivial ?_
            refine ⟨_, rfl, ?_⟩
            refine q_iceq rfl rfl (fun c113 => ?_) (fun c113 => absurd (by decide) c113)
            refine q_icc4 (z := 6) rfl rfl rfl rfl rfl ?_
            refine q_goto rfl ?_
            refine q_iload rfl rfl rfl ?_
            refine q_aload_nF rfl rfl rfl ?_
            refine q_alenX (x := 6) rfl rfl rfl ?_
            refine q_bipush rfl rfl ?_
            refine q_isub rfl rfl (q_tn (z := 0) rfl ?_)
            refine q_icgt rfl rfl (fun c114 => ?_) (fun c114 => absurd (by decide) c114)
            refine q_iconst rfl rfl ?_
            refine q_iret rfl rfl rfl ?_
            exact hK _ _
          · refine q_iload_n rfl rfl rfl ?_
            refine q_aload_n rfl rfl rfl ?_
            refine q_getf rfl rfl (by decide) (FW_1 S hW) rfl ?_
            refine q_icge rfl rfl (fun c115 => ?_) (fun c115 => ?_)
            · refine q_iconst rfl rfl ?_
              refine q_iret rfl rfl rfl ?_
              refine ⟨_, rfl, ?_⟩
              refine q_ifeq rfl rfl (fun c116 => ?_) (fun c116 => absurd (by decide) c116)
              refine q_iload_n rfl rfl rfl ?_
              refine q_iconst rfl rfl ?_
              refine q_icne rfl rfl (fun c117 => absurd c117 (by decide)) (fun c117 => ?_)
              refine q_iload_n rfl rfl rfl ?_
              refine q_iconst rfl rfl ?_
              refine q_icne rfl rfl (fun c118 => absurd c118 (by decide)) (fun c118 => ?_)
              refine q_iconst rfl rfl ?_
              refine q_iret rfl rfl trivial ?_
              refine ⟨_, rfl, ?_⟩
              refine q_aload_n rfl rfl rfl ?_
              refine q_aload_nF rfl rfl rfl ?_
              refine q_iload rfl rfl rfl ?_
              refine q_iconst rfl rfl ?_
              refine q_iadd rfl rfl (q_tn (z := 1) rfl ?_)
              refine q_ialdX (x := x1) rfl rfl rfl hx1 ?_
              refine q_aload_nF rfl rfl rfl ?_
              refine q_iload rfl rfl rfl ?_
              refine q_iconst rfl rfl ?_
              refine q_iadd rfl rfl (q_tn (z := 2) rfl ?_)
              refine q_ialdX (x := 1) rfl rfl rfl hx2 ?_
              refine q_aload_nF rfl rfl rfl ?_
              refine q_iload rfl rfl rfl ?_
              refine q_iconst rfl rfl ?_
              refine q_iadd rfl rfl (q_tn (z := 3) rfl ?_)
              refine q_ialdX (x := x3) rfl rfl rfl hx3 ?_
              refine q_aload_nF rfl rfl rfl ?_
              refine q_iload rfl rfl rfl ?_
              refine q_iconst rfl rfl ?_
              refine q_iadd rfl rfl (q_tn (z := 4) rfl ?_)
              refine q_ialdX (x := x4) rfl rfl rfl hx4 ?_
              refine q_nV4 rfl rfl (Or.inl rfl) rfl rfl rfl (by decide) (FW_46 S hW) ⟨rfl, rfl⟩ rfl ?_
              change PQ _ _ _ mm_X12_keep 0 [.ref 46, .int x1, .int 1, .int x3, .int x4, pm_un, pm_un] [] _ _ 0 0 _
              refine q_aload_n rfl rfl rfl ?_
              refine q_iload_n rfl rfl rfl ?_
              refine q_nV1 rfl rfl (Or.inl rfl) rfl rfl rfl (by decide) (FW_46 S hW) ⟨rfl, rfl⟩ rfl ?_
              change PQ _ _ _ mm_X12_isShelf 0 [.ref 46, .int x1] [] _ _ 0 0 _
              refine q_aload_n rfl rfl rfl ?_
              refine q_iload_n rfl rfl rfl ?_
              refine q_iconst rfl rfl ?_
              refine q_bipush rfl rfl ?_
              refine q_nV3 rfl rfl (Or.inl rfl) rfl rfl rfl (by decide) (FW_46 S hW) ⟨rfl, rfl⟩ rfl ?_
              change PQ _ _ _ mm_X12_in 0 [.ref 46, .int x1, .int 0, .int 7] [] _ _ 0 0 _
              refine q_iload_n rfl rfl rfl ?_
              refine q_iload_n rfl rfl rfl ?_
              refine q_iclt rfl rfl (fun c119 => absurd c119 (i_lt_f (i_nlt c1) rfl)) (fun c119 => ?_)
              refine q_iload_n rfl rfl rfl ?_
              refine q_iload_n rfl rfl rfl ?_
              refine q_icgt rfl rfl (fun c120 => absurd c120 (i_gt_f (i_ltle (i_nle c8) (B := 7) rfl) rfl)) (fun c120 => ?_)
              refine q_iconst rfl rfl ?_
              refine q_goto rfl ?_
              refine q_iret rfl rfl rfl ?_
              refine ⟨_, rfl, ?_⟩
              refine q_iret rfl rfl rfl ?_
              refine ⟨_, rfl, ?_⟩
              refine q_ifeq rfl rfl (fun c121 => absurd c121 (by decide)) (fun c121 => ?_)
              refine q_iload_n rfl rfl rfl ?_
              refine q_ifeq rfl rfl (fun c122 => absurd c122 (by decide)) (fun c122 => ?_)
              refine q_iload_n rfl rfl rfl ?_
              refine q_iconst rfl rfl ?_
              refine q_iceq rfl rfl (fun c123 => absurd c123 (by decide)) (fun c123 => ?_)
              refine q_iload_n rfl rfl rfl ?_
              refine q_iconst rfl rfl ?_
              refine q_icne rfl rfl (fun c124 => ?_) (fun c124 => absurd (by decide) c124)
              refine q_aload_n rfl rfl rfl ?_
              refine q_iload_n rfl rfl rfl ?_
              refine q_nV1 rfl rfl (Or.inl rfl) rfl rfl rfl (by decide) (FW_46 S hW) ⟨rfl, rfl⟩ rfl ?_
              change PQ _ _ _ mm_X12_isHand 0 [.ref 46, .int x3] [] _ _ 0 0 _
              refine q_aload_n rfl rfl rfl ?_
              refine q_iload_n rfl rfl rfl ?_
              refine q_iconst rfl rfl ?_
              refine q_aload_n rfl rfl rfl ?_
              refine q_getf rfl rfl (by decide) (FW_46 S hW) rfl ?_
              refine q_iconst rfl rfl ?_
              refine q_isub rfl rfl (q_tn (z := 0) rfl ?_)
              refine q_nV3 rfl rfl (Or.inl rfl) rfl rfl rfl (by decide) (FW_46 S hW) ⟨rfl, rfl⟩ rfl ?_
              change PQ _ _ _ mm_X12_in 0 [.ref 46, .int x3, .int 0, .int 0] [] _ _ 0 0 _
              refine q_iload_n rfl rfl rfl ?_
              refine q_iload_n rfl rfl rfl ?_
              refine q_iclt rfl rfl (fun c125 => absurd c125 (i_lt_f c115 rfl)) (fun c125 => ?_)
              refine q_iload_n rfl rfl rfl ?_
              refine q_iload_n rfl rfl rfl ?_
              refine q_icgt rfl rfl (fun c126 => ?_) (fun c126 => absurd (i_gt_t c115 rfl) c126)
              refine q_iconst rfl rfl ?_
              refine q_iret rfl rfl rfl ?_
              refine ⟨_, rfl, ?_⟩
              refine q_iret rfl rfl rfl ?_
              refine ⟨_, rfl, ?_⟩
              refine q_ifeq rfl rfl (fun c127 => ?_) (fun c127 => absurd (by decide) c127)
              refine q_iload_n rfl rfl rfl ?_
              refine q_iconst rfl rfl ?_
              refine q_icne rfl rfl (fun c128 => absurd c128 (by decide)) (fun c128 => ?_)
              refine q_iconst rfl rfl ?_
              refine q_ist5 rfl rfl rfl rfl ?_
              refine q_iload rfl rfl rfl ?_
              refine q_ifne rfl rfl (fun c129 => ?_) (fun c129 => absurd (by decide) c129)
              refine q_iconst rfl rfl ?_
              refine q_iret rfl rfl trivial ?_
              refine ⟨_, rfl, ?_⟩
              refine q_iceq rfl rfl (fun c130 => ?_) (fun c130 => absurd (by decide) c130)
              refine q_icc4 (z := 6) rfl rfl rfl rfl rfl ?_
              refine q_goto rfl ?_
              refine q_iload rfl rfl rfl ?_
              refine q_aload_nF rfl rfl rfl ?_
              refine q_alenX (x := 6) rfl rfl rfl ?_
              refine q_bipush rfl rfl ?_
              refine q_isub rfl rfl (q_tn (z := 0) rfl ?_)
              refine q_icgt rfl rfl (fun c131 => ?_) (fun c131 => absurd (by decide) c131)
              refine q_iconst rfl rfl ?_
              refine q_iret rfl rfl rfl ?_
              exact hK _ _
            · have e131 : x3 = 0 := Int32.le_antisymm (i_ltle (i_nle c115) (B := 0) rfl) (i_nlt c99)
              subst e131
              refine q_iload_n rfl rfl rfl ?_
              refine q_iflt rfl rfl (fun c132 => ?_) (fun c132 => ?_)
              · refine q_iconst rfl rfl ?_
                refine q_iret rfl rfl rfl ?_
                refine ⟨_, rfl, ?_⟩
                refine q_ifeq rfl rfl (fun c133 => ?_) (fun c133 => absurd (by decide) c133)
                refine q_iload_n rfl rfl rfl ?_
                refine q_iconst rfl rfl ?_
                refine q_icne rfl rfl (fun c134 => absurd c134 (by decide)) (fun c134 => ?_)
                refine q_iload_n rfl rfl rfl ?_
                refine q_iconst rfl rfl ?_
                refine q_icne rfl rfl (fun c135 => absurd c135 (by decide)) (fun c135 => ?_)
                refine q_iconst rfl rfl ?_
                refine q_iret rfl rfl trivial ?_
                refine ⟨_, rfl, ?_⟩
                refine q_aload_n rfl rfl rfl ?_
                refine q_aload_nF rfl rfl rfl ?_
                refine q_iload rfl rfl rfl ?_
                refine q_iconst rfl rfl ?_
                refine q_iadd rfl rfl (q_tn (z := 1) rfl ?_)
                refine q_ialdX (x := x1) rfl rfl rfl hx1 ?_
                refine q_aload_nF rfl rfl rfl ?_
                refine q_iload rfl rfl rfl ?_
                refine q_iconst rfl rfl ?_
                refine q_iadd rfl rfl (q_tn (z := 2) rfl ?_)
                refine q_ialdX (x := 1) rfl rfl rfl hx2 ?_
                refine q_aload_nF rfl rfl rfl ?_
                refine q_iload rfl rfl rfl ?_
                refine q_iconst rfl rfl ?_
                refine q_iadd rfl rfl (q_tn (z := 3) rfl ?_)
                refine q_ialdX (x := 0) rfl rfl rfl hx3 ?_
                refine q_aload_nF rfl rfl rfl ?_
                refine q_iload rfl rfl rfl ?_
                refine q_iconst rfl rfl ?_
                refine q_iadd rfl rfl (q_tn (z := 4) rfl ?_)
                refine q_ialdX (x := x4) rfl rfl rfl hx4 ?_
                refine q_nV4 rfl rfl (Or.inl rfl) rfl rfl rfl (by decide) (FW_46 S hW) ⟨rfl, rfl⟩ rfl ?_
                change PQ _ _ _ mm_X12_keep 0 [.ref 46, .int x1, .int 1, .int 0, .int x4, pm_un, pm_un] [] _ _ 0 0 _
                refine q_aload_n rfl rfl rfl ?_
                refine q_iload_n rfl rfl rfl ?_
                refine q_nV1 rfl rfl (Or.inl rfl) rfl rfl rfl (by decide) (FW_46 S hW) ⟨rfl, rfl⟩ rfl ?_
                change PQ _ _ _ mm_X12_isShelf 0 [.ref 46, .int x1] [] _ _ 0 0 _
                refine q_aload_n rfl rfl rfl ?_
                refine q_iload_n rfl rfl rfl ?_
                refine q_iconst rfl rfl ?_
                refine q_bipush rfl rfl ?_
                refine q_nV3 rfl rfl (Or.inl rfl) rfl rfl rfl (by decide) (FW_46 S hW) ⟨rfl, rfl⟩ rfl ?_
                change PQ _ _ _ mm_X12_in 0 [.ref 46, .int x1, .int 0, .int 7] [] _ _ 0 0 _
                refine q_iload_n rfl rfl rfl ?_
                refine q_iload_n rfl rfl rfl ?_
                refine q_iclt rfl rfl (fun c136 => absurd c136 (i_lt_f (i_nlt c1) rfl)) (fun c136 => ?_)
                refine q_iload_n rfl rfl rfl ?_
                refine q_iload_n rfl rfl rfl ?_
                refine q_icgt rfl rfl (fun c137 => absurd c137 (i_gt_f (i_ltle (i_nle c8) (B := 7) rfl) rfl)) (fun c137 => ?_)
                refine q_iconst rfl rfl ?_
                refine q_goto rfl ?_
                refine q_iret rfl rfl rfl ?_
                refine ⟨_, rfl, ?_⟩
                refine q_iret rfl rfl rfl ?_
                refine ⟨_, rfl, ?_⟩
                refine q_ifeq rfl rfl (fun c138 => absurd c138 (by decide)) (fun c138 => ?_)
                refine q_iload_n rfl rfl rfl ?_
                refine q_ifeq rfl rfl (fun c139 => absurd c139 (by decide)) (fun c139 => ?_)
                refine q_iload_n rfl rfl rfl ?_
                refine q_iconst rfl rfl ?_
                refine q_iceq rfl rfl (fun c140 => absurd c140 (by decide)) (fun c140 => ?_)
                refine q_iload_n rfl rfl rfl ?_
                refine q_iconst rfl rfl ?_
                refine q_icne rfl rfl (fun c141 => ?_) (fun c141 => absurd (by decide) c141)
                refine q_aload_n rfl rfl rfl ?_
                refine q_iload_n rfl rfl rfl ?_
                refine q_nV1 rfl rfl (Or.inl rfl) rfl rfl rfl (by decide) (FW_46 S hW) ⟨rfl, rfl⟩ rfl ?_
                change PQ _ _ _ mm_X12_isHand 0 [.ref 46, .int 0] [] _ _ 0 0 _
                refine q_aload_n rfl rfl rfl ?_
                refine q_iload_n rfl rfl rfl ?_
                refine q_iconst rfl rfl ?_
                refine q_aload_n rfl rfl rfl ?_
                refine q_getf rfl rfl (by decide) (FW_46 S hW) rfl ?_
                refine q_iconst rfl rfl ?_
                refine q_isub rfl rfl (q_tn (z := 0) rfl ?_)
                refine q_nV3 rfl rfl (Or.inl rfl) rfl rfl rfl (by decide) (FW_46 S hW) ⟨rfl, rfl⟩ rfl ?_
                change PQ _ _ _ mm_X12_in 0 [.ref 46, .int 0, .int 0, .int 0] [] _ _ 0 0 _
                refine q_iload_n rfl rfl rfl ?_
                refine q_iload_n rfl rfl rfl ?_
                refine q_iclt rfl rfl (fun c142 => absurd c142 (by decide)) (fun c142 => ?_)
                refine q_iload_n rfl rfl rfl ?_
                refine q_iload_n rfl rfl rfl ?_
                refine q_icgt rfl rfl (fun c143 => absurd c143 (by decide)) (fun c143 => ?_)
                refine q_iconst rfl rfl ?_
                refine q_goto rfl ?_
                refine q_iret rfl rfl rfl ?_
                refine ⟨_, rfl, ?_⟩
                refine q_iret rfl rfl rfl ?_
                refine ⟨_, rfl, ?_⟩
                refine q_ifeq rfl rfl (fun c144 => absurd c144 (by decide)) (fun c144 => ?_)
                refine q_aload_n rfl rfl rfl ?_
                refine q_iload rfl rfl rfl ?_
                refine q_iconst rfl rfl ?_
                refine q_aload_n rfl rfl rfl ?_
                refine q_getf rfl rfl (by decide) (FW_46 S hW) rfl ?_
                refine q_iload_n rfl rfl rfl ?_
                refine q_iald rfl rfl (by decide) (FW_47 S hW) (by decide) (q_tn (z := 0) rfl ?_)
                refine q_iconst rfl rfl ?_
                refine q_isub rfl rfl (q_tn (z := (-1)) rfl ?_)
                refine q_nV3 rfl rfl (Or.inl rfl) rfl rfl rfl (by decide) (FW_46 S hW) ⟨rfl, rfl⟩ rfl ?_
                change PQ _ _ _ mm_X12_in 0 [.ref 46, .int x4, .int 0, .int (-1)] [] _ _ 0 0 _
                refine q_iload_n rfl rfl rfl ?_
                refine q_iload_n rfl rfl rfl ?_
                refine q_iclt rfl rfl (fun c145 => ?_) (fun c145 => absurd (i_lt_t (i_ltle c132 (B := (-1)) rfl) rfl) c145)
                refine q_iconst rfl rfl ?_
                refine q_iret rfl rfl rfl ?_
                refine ⟨_, rfl, ?_⟩
                refine q_ifne rfl rfl (fun c146 => ?_) (fun c146 => absurd (by decide) c146)
                refine q_iload_n rfl rfl rfl ?_
                refine q_iconst rfl rfl ?_
                refine q_icne rfl rfl (fun c147 => absurd c147 (by decide)) (fun c147 => ?_)
                refine q_iconst rfl rfl ?_
                refine q_ist5 rfl rfl rfl rfl ?_
                refine q_iload rfl rfl rfl ?_
                refine q_ifne rfl rfl (fun c148 => ?_) (fun c148 => absurd (by decide) c148)
                refine q_iconst rfl rfl ?_
                refine q_iret rfl rfl trivial ?_
                refine ⟨_, rfl, ?_⟩
                refine q_iceq rfl rfl (fun c149 => ?_) (fun c149 => absurd (by decide) c149)
                refine q_icc4 (z := 6) rfl rfl rfl rfl rfl ?_
                refine q_goto rfl ?_
                refine q_iload rfl rfl rfl ?_
                refine q_aload_nF rfl rfl rfl ?_
                refine q_alenX (x := 6) rfl rfl rfl ?_
                refine q_bipush rfl rfl ?_
                refine q_isub rfl rfl (q_tn (z := 0) rfl ?_)
                refine q_icgt rfl rfl (fun c150 => ?_) (fun c150 => absurd (by decide) c150)
                refine q_iconst rfl rfl ?_
                refine q_iret rfl rfl rfl ?_
                exact hK _ _
              · refine q_iload_n rfl rfl rfl ?_
                refine q_aload_n rfl rfl rfl ?_
                refine q_getf rfl rfl (by decide) (FW_1 S hW) rfl ?_
                refine q_iload_n rfl rfl rfl ?_
                refine q_iald rfl rfl (by decide) (FW_3 S hW) (by decide) (q_tn (z := 0) rfl ?_)
                refine q_icge rfl rfl (fun c151 => ?_) (fun c151 => absurd (i_ge_t (i_nlt c132) rfl) c151)
                refine q_iconst rfl rfl ?_
                refine q_iret rfl rfl rfl ?_
                refine ⟨_, rfl, ?_⟩
                refine q_ifeq rfl rfl (fun c152 => ?_) (fun c152 => absurd (by decide) c152)
                refine q_iload_n rfl rfl rfl ?_
                refine q_iconst rfl rfl ?_
                refine q_icne rfl rfl (fun c153 => absurd c153 (by decide)) (fun c153 => ?_)
                refine q_iload_n rfl rfl rfl ?_
                refine q_iconst rfl rfl ?_
                refine q_icne rfl rfl (fun c154 => absurd c154 (by decide)) (fun c154 => ?_)
                refine q_iconst rfl rfl ?_
                refine q_iret rfl rfl trivial ?_
                refine ⟨_, rfl, ?_⟩
                refine q_aload_n rfl rfl rfl ?_
                refine q_aload_nF rfl rfl rfl ?_
                refine q_iload rfl rfl rfl ?_
                refine q_iconst rfl rfl ?_
                refine q_iadd rfl rfl (q_tn (z := 1) rfl ?_)
                refine q_ialdX (x := x1) rfl rfl rfl hx1 ?_
                refine q_aload_nF rfl rfl rfl ?_
                refine q_iload rfl rfl rfl ?_
                refine q_iconst rfl rfl ?_
                refine q_iadd rfl rfl (q_tn (z := 2) rfl ?_)
                refine q_ialdX (x := 1) rfl rfl rfl hx2 ?_
                refine q_aload_nF rfl rfl rfl ?_
                refine q_iload rfl rfl rfl ?_
                refine q_iconst rfl rfl ?_
                refine q_iadd rfl rfl (q_tn (z := 3) rfl ?_)
                refine q_ialdX (x := 0) rfl rfl rfl hx3 ?_
                refine q_aload_nF rfl rfl rfl ?_
                refine q_iload rfl rfl rfl ?_
                refine q_iconst rfl rfl ?_
                refine q_iadd rfl rfl (q_tn (z := 4) rfl ?_)
                refine q_ialdX (x := x4) rfl rfl rfl hx4 ?_
                refine q_nV4 rfl rfl (Or.inl rfl) rfl rfl rfl (by decide) (FW_46 S hW) ⟨rfl, rfl⟩ rfl ?_
                change PQ _ _ _ mm_X12_keep 0 [.ref 46, .int x1, .int 1, .int 0, .int x4, pm_un, pm_un] [] _ _ 0 0 _
                refine q_aload_n rfl rfl rfl ?_
                refine q_iload_n rfl rfl rfl ?_
                refine q_nV1 rfl rfl (Or.inl rfl) rfl rfl rfl (by decide) (FW_46 S hW) ⟨rfl, rfl⟩ rfl ?_
                change PQ _ _ _ mm_X12_isShelf 0 [.ref 46, .int x1] [] _ _ 0 0 _
                refine q_aload_n rfl rfl rfl ?_
                refine q_iload_n rfl rfl rfl ?_
                refine q_iconst rfl rfl ?_
                refine q_bipush rfl rfl ?_
                refine q_nV3 rfl rfl (Or.inl rfl) rfl rfl rfl (by decide) (FW_46 S hW) ⟨rfl, rfl⟩ rfl ?_
                change PQ _ _ _ mm_X12_in 0 [.ref 46, .int x1, .int 0, .int 7] [] _ _ 0 0 _
                refine q_iload_n rfl rfl rfl ?_
                refine q_iload_n rfl rfl rfl ?_
                refine q_iclt rfl rfl (fun c155 => absurd c155 (i_lt_f (i_nlt c1) rfl)) (fun c155 => ?_)
                refine q_iload_n rfl rfl rfl ?_
                refine q_iload_n rfl rfl rfl ?_
                refine q_icgt rfl rfl (fun c156 => absurd c156 (i_gt_f (i_ltle (i_nle c8) (B := 7) rfl) rfl)) (fun c156 => ?_)
                refine q_iconst rfl rfl ?_
                refine q_goto rfl ?_
                refine q_iret rfl rfl rfl ?_
                refine ⟨_, rfl, ?_⟩
                refine q_iret rfl rfl rfl ?_
                refine ⟨_, rfl, ?_⟩
                refine q_ifeq rfl rfl (fun c157 => absurd c157 (by decide)) (fun c157 => ?_)
                refine q_iload_n rfl rfl rfl ?_
                refine q_ifeq rfl rfl (fun c158 => absurd c158 (by decide)) (fun c158 => ?_)
                refine q_iload_n rfl rfl rfl ?_
                refine q_iconst rfl rfl ?_
                refine q_iceq rfl rfl (fun c159 => absurd c159 (by decide)) (fun c159 => ?_)
                refine q_iload_n rfl rfl rfl ?_
                refine q_iconst rfl rfl ?_
                refine q_icne rfl rfl (fun c160 => ?_) (fun c160 => absurd (by decide) c160)
                refine q_aload_n rfl rfl rfl ?_
                refine q_iload_n rfl rfl rfl ?_
                refine q_nV1 rfl rfl (Or.inl rfl) rfl rfl rfl (by decide) (FW_46 S hW) ⟨rfl, rfl⟩ rfl ?_
                change PQ _ _ _ mm_X12_isHand 0 [.ref 46, .int 0] [] _ _ 0 0 _
                refine q_aload_n rfl rfl rfl ?_
                refine q_iload_n rfl rfl rfl ?_
                refine q_iconst rfl rfl ?_
                refine q_aload_n rfl rfl rfl ?_
                refine q_getf rfl rfl (by decide) (FW_46 S hW) rfl ?_
                refine q_iconst rfl rfl ?_
                refine q_isub rfl rfl (q_tn (z := 0) rfl ?_)
                refine q_nV3 rfl rfl (Or.inl rfl) rfl rfl rfl (by decide) (FW_46 S hW) ⟨rfl, rfl⟩ rfl ?_
                change PQ _ _ _ mm_X12_in 0 [.ref 46, .int 0, .int 0, .int 0] [] _ _ 0 0 _
                refine q_iload_n rfl rfl rfl ?_
                refine q_iload_n rfl rfl rfl ?_
                refine q_iclt rfl rfl (fun c161 => absurd c161 (by decide)) (fun c161 => ?_)
                refine q_iload_n rfl rfl rfl ?_
                refine q_iload_n rfl rfl rfl ?_
                refine q_icgt rfl rfl (fun c162 => absurd c162 (by decide)) (fun c162 => ?_)
                refine q_iconst rfl rfl ?_
                refine q_goto rfl ?_
                refine q_iret rfl rfl rfl ?_
                refine ⟨_, rfl, ?_⟩
                refine q_iret rfl rfl rfl ?_
                refine ⟨_, rfl, ?_⟩
                refine q_ifeq rfl rfl (fun c163 => absurd c163 (by decide)) (fun c163 => ?_)
                refine q_aload_n rfl rfl rfl ?_
                refine q_iload rfl rfl rfl ?_
                refine q_iconst rfl rfl ?_
                refine q_aload_n rfl rfl rfl ?_
                refine q_getf rfl rfl (by decide) (FW_46 S hW) rfl ?_
                refine q_iload_n rfl rfl rfl ?_
                refine q_iald rfl rfl (by decide) (FW_47 S hW) (by decide) (q_tn (z := 0) rfl ?_)
                refine q_iconst rfl rfl ?_
                refine q_isub rfl rfl (q_tn (z := (-1)) rfl ?_)
                refine q_nV3 rfl rfl (Or.inl rfl) rfl rfl rfl (by decide) (FW_46 S hW) ⟨rfl, rfl⟩ rfl ?_
                change PQ _ _ _ mm_X12_in 0 [.ref 46, .int x4, .int 0, .int (-1)] [] _ _ 0 0 _
                refine q_iload_n rfl rfl rfl ?_
                refine q_iload_n rfl rfl rfl ?_
                refine q_iclt rfl rfl (fun c164 => absurd c164 (i_lt_f (i_nlt c132) rfl)) (fun c164 => ?_)
                refine q_iload_n rfl rfl rfl ?_
                refine q_iload_n rfl rfl rfl ?_
                refine q_icgt rfl rfl (fun c165 => ?_) (fun c165 => absurd (i_gt_t (i_nlt c132) rfl) c165)
                refine q_iconst rfl rfl ?_
                refine q_iret rfl rfl rfl ?_
                refine ⟨_, rfl, ?_⟩
                refine q_ifne rfl rfl (fun c166 => ?_) (fun c166 => absurd (by decide) c166)
                refine q_iload_n rfl rfl rfl ?_
                refine q_iconst rfl rfl ?_
                refine q_icne rfl rfl (fun c167 => absurd c167 (by decide)) (fun c167 => ?_)
                refine q_iconst rfl rfl ?_
                refine q_ist5 rfl rfl rfl rfl ?_
                refine q_iload rfl rfl rfl ?_
                refine q_ifne rfl rfl (fun c168 => ?_) (fun c168 => absurd (by decide) c168)
                refine q_iconst rfl rfl ?_
                refine q_iret rfl rfl trivial ?_
                refine ⟨_, rfl, ?_⟩
                refine q_iceq rfl rfl (fun c169 => ?_) (fun c169 => absurd (by decide) c169)
                refine q_icc4 (z := 6) rfl rfl rfl rfl rfl ?_
                refine q_goto rfl ?_
                refine q_iload rfl rfl rfl ?_
                refine q_aload_nF rfl rfl rfl ?_
                refine q_alenX (x := 6) rfl rfl rfl ?_
                refine q_bipush rfl rfl ?_
                refine q_isub rfl rfl (q_tn (z := 0) rfl ?_)
                refine q_icgt rfl rfl (fun c170 => ?_) (fun c170 => absurd (by decide) c170)
                refine q_iconst rfl rfl ?_
                refine q_iret rfl rfl rfl ?_
                exact hK _ _
        · refine q_iload_n rfl rfl rfl ?_
          refine q_iconst rfl rfl ?_
          refine q_icne rfl rfl (fun c171 => ?_) (fun c171 => ?_)
          · subst c171
            refine q_aload_n rfl rfl rfl ?_
            refine q_getf rfl rfl (by decide) (FW_0 S hW) rfl ?_
            refine q_iload_n rfl rfl rfl ?_
            refine q_aload_n rfl rfl rfl ?_
            refine q_nV0A rfl rfl (Or.inl rfl) rfl rfl rfl (by decide) (FW_0 S hW) ⟨rfl, rfl⟩ rfl rfl rfl ?_
            change PQ _ _ _ mm_X11_numbersOfRun 0 [.ref 0, pm_un, pm_un] [] _ _ 0 0 _
            refine q_new rfl rfl rfl rfl ?_
            refine q_dupr rfl rfl ?_
            refine q_iconst rfl rfl ?_
            refine q_aload_n rfl rfl rfl ?_
            refine q_getf rfl rfl (by decide) (FW_0 S hW) rfl ?_
            refine q_getf rfl rfl (by decide) (FW_1 S hW) rfl ?_
            refine q_iadd rfl rfl (q_tn (z := 5) rfl ?_)
            refine q_nI1vA rfl rfl (Or.inl rfl) rfl rfl ⟨rfl, rfl⟩ rfl rfl rfl ?_
            change PQ _ _ _ mm_X4_init 0 [.ref 82, .int 5] [] _ _ 0 0 _
            refine q_aload_n rfl rfl rfl ?_
            refine q_nI0v rfl rfl (Or.inr rfl) rfl rfl ⟨rfl, rfl⟩ rfl ?_
            change PQ _ _ _ mm_X2_init 0 [.ref 82] [] _ _ 0 0 _
            refine q_aload_n rfl rfl rfl ?_
            refine q_objI rfl rfl rfl ?_
            refine q_ret rfl rfl ?_
            refine ⟨rfl, ?_⟩
            refine q_aload_n rfl rfl rfl ?_
            refine q_iload_n rfl rfl rfl ?_
            refine q_iconst rfl rfl ?_
            refine q_mmax (z := 5) rfl om_lr rfl rfl rfl ?_
            refine q_newa (m0 := 5) rfl rfl (by decide) rfl rfl rfl rfl ?_
            refine q_putf rfl rfl (by decide) rfl (by decide) rfl trivial ?_
            refine q_ret rfl rfl ?_
            refine ⟨rfl, ?_⟩
            refine q_ast1n rfl rfl rfl rfl ?_
            refine q_iconst rfl rfl ?_
            refine q_ist2n rfl rfl rfl rfl ?_
            refine q_iload_n rfl rfl rfl ?_
            refine q_iconst rfl rfl ?_
            refine q_icge rfl rfl (fun c172 => absurd c172 (by decide)) (fun c172 => ?_)
            refine q_aload_n rfl rfl rfl ?_
            refine q_getf rfl rfl (by decide) rfl rfl ?_
            refine q_iload_n rfl rfl rfl ?_
            refine q_aload_n rfl rfl rfl ?_
            refine q_getf rfl rfl (by decide) (FW_0 S hW) rfl ?_
            refine q_iload_n rfl rfl rfl ?_
            refine q_nS2 rfl rfl (Or.inl rfl) rfl rfl ⟨rfl, rfl⟩ rfl ?_
            change PQ _ _ _ mm_X0_place 0 [.long 0, pm_un, .int 0] [] _ _ 0 0 _
            refine q_lload_n rfl rfl rfl ?_
            refine q_bipush rfl rfl ?_
            refine q_iconst rfl rfl ?_
            refine q_iload_n rfl rfl rfl ?_
            refine q_imul rfl rfl (q_tn (z := 0) rfl ?_)
            refine q_iadd rfl rfl (q_tn (z := 36) rfl ?_)
            refine q_lushr rfl rfl (q_tnl (z := 0) rfl ?_)
            refine q_l2i rfl rfl (q_tn (z := 0) rfl ?_)
            refine q_bipush rfl rfl ?_
            refine q_iand rfl rfl (q_tn (z := 0) rfl ?_)
            refine q_iret rfl rfl trivial ?_
            refine ⟨_, rfl, ?_⟩
            refine q_i2l rfl rfl (q_tnl (z := 0) rfl ?_)
            refine q_last rfl rfl (by decide) rfl (by decide) ?_
            refine q_icc2 (z := 1) rfl rfl rfl rfl rfl ?_
            refine q_goto rfl ?_
            refine q_iload_n rfl rfl rfl ?_
            refine q_iconst rfl rfl ?_
            refine q_icge rfl rfl (fun c173 => absurd c173 (by decide)) (fun c173 => ?_)
            refine q_aload_n rfl rfl rfl ?_
            refine q_getf rfl rfl (by decide) rfl rfl ?_
            refine q_iload_n rfl rfl rfl ?_
            refine q_aload_n rfl rfl rfl ?_
            refine q_getf rfl rfl (by decide) (FW_0 S hW) rfl ?_
            refine q_iload_n rfl rfl rfl ?_
            refine q_nS2 rfl rfl (Or.inl rfl) rfl rfl ⟨rfl, rfl⟩ rfl ?_
            change PQ _ _ _ mm_X0_place 0 [.long 0, pm_un, .int 1] [] _ _ 0 0 _
            refine q_lload_n rfl rfl rfl ?_
            refine q_bipush rfl rfl ?_
            refine q_iconst rfl rfl ?_
            refine q_iload_n rfl rfl rfl ?_
            refine q_imul rfl rfl (q_tn (z := 4) rfl ?_)
            refine q_iadd rfl rfl (q_tn (z := 40) rfl ?_)
            refine q_lushr rfl rfl (q_tnl (z := 0) rfl ?_)
            refine q_l2i rfl rfl (q_tn (z := 0) rfl ?_)
            refine q_bipush rfl rfl ?_
            refine q_iand rfl rfl (q_tn (z := 0) rfl ?_)
            refine q_iret rfl rfl trivial ?_
            refine ⟨_, rfl, ?_⟩
            refine q_i2l rfl rfl (q_tnl (z := 0) rfl ?_)
            refine q_last rfl rfl (by decide) rfl (by decide) ?_
            refine q_icc2 (z := 2) rfl rfl rfl rfl rfl ?_
            refine q_goto rfl ?_
            refine q_iload_n rfl rfl rfl ?_
            refine q_iconst rfl rfl ?_
            refine q_icge rfl rfl (fun c174 => absurd c174 (by decide)) (fun c174 => ?_)
            refine q_aload_n rfl rfl rfl ?_
            refine q_getf rfl rfl (by decide) rfl rfl ?_
            refine q_iload_n rfl rfl rfl ?_
            refine q_aload_n rfl rfl rfl ?_
            refine q_getf rfl rfl (by decide) (FW_0 S hW) rfl ?_
            refine q_iload_n rfl rfl rfl ?_
            refine q_nS2 rfl rfl (Or.inl rfl) rfl rfl ⟨rfl, rfl⟩ rfl ?_
            change PQ _ _ _ mm_X0_place 0 [.long 0, pm_un, .int 2] [] _ _ 0 0 _
            refine q_lload_n rfl rfl rfl ?_
            refine q_bipush rfl rfl ?_
            refine q_iconst rfl rfl ?_
            refine q_iload_n rfl rfl rfl ?_
            refine q_imul rfl rfl (q_tn (z := 8) rfl ?_)
            refine q_iadd rfl rfl (q_tn (z := 44) rfl ?_)
            refine q_lushr rfl rfl (q_tnl (z := 0) rfl ?_)
            refine q_l2i rfl rfl (q_tn (z := 0) rfl ?_)
            refine q_bipush rfl rfl ?_
            refine q_iand rfl rfl (q_tn (z := 0) rfl ?_)
            refine q_iret rfl rfl trivial ?_
            refine ⟨_, rfl, ?_⟩
            refine q_i2l rfl rfl (q_tnl (z := 0) rfl ?_)
            refine q_last rfl rfl (by decide) rfl (by decide) ?_
            refine q_icc2 (z := 3) rfl rfl rfl rfl rfl ?_
            refine q_goto rfl ?_
            refine q_iload_n rfl rfl rfl ?_
            refine q_iconst rfl rfl ?_
            refine q_icge rfl rfl (fun c175 => absurd c175 (by decide)) (fun c175 => ?_)
            refine q_aload_n rfl rfl rfl ?_
            refine q_getf rfl rfl (by decide) rfl rfl ?_
            refine q_iload_n rfl rfl rfl ?_
            refine q_aload_n rfl rfl rfl ?_
            refine q_getf rfl rfl (by decide) (FW_0 S hW) rfl ?_
            refine q_iload_n rfl rfl rfl ?_
            refine q_nS2 rfl rfl (Or.inl rfl) rfl rfl ⟨rfl, rfl⟩ rfl ?_
            change PQ _ _ _ mm_X0_place 0 [.long 0, pm_un, .int 3] [] _ _ 0 0 _
            refine q_lload_n rfl rfl rfl ?_
            refine q_bipush rfl rfl ?_
            refine q_iconst rfl rfl ?_
            refine q_iload_n rfl rfl rfl ?_
            refine q_imul rfl rfl (q_tn (z := 12) rfl ?_)
            refine q_iadd rfl rfl (q_tn (z := 48) rfl ?_)
            refine q_lushr rfl rfl (q_tnl (z := 0) rfl ?_)
            refine q_l2i rfl rfl (q_tn (z := 0) rfl ?_)
            refine q_bipush rfl rfl ?_
            refine q_iand rfl rfl (q_tn (z := 0) rfl ?_)
            refine q_iret rfl rfl trivial ?_
            refine ⟨_, rfl, ?_⟩
            refine q_i2l rfl rfl (q_tnl (z := 0) rfl ?_)
            refine q_last rfl rfl (by decide) rfl (by decide) ?_
            refine q_icc2 (z := 4) rfl rfl rfl rfl rfl ?_
            refine q_goto rfl ?_
            refine q_iload_n rfl rfl rfl ?_
            refine q_iconst rfl rfl ?_
            refine q_icge rfl rfl (fun c176 => ?_) (fun c176 => absurd (by decide) c176)
            refine q_iconst rfl rfl ?_
            refine q_ist2n rfl rfl rfl rfl ?_
            refine q_iload_n rfl rfl rfl ?_
            refine q_aload_n rfl rfl rfl ?_
            refine q_getf rfl rfl (by decide) (FW_0 S hW) rfl ?_
            refine q_getf rfl rfl (by decide) (FW_1 S hW) rfl ?_
            refine q_icge rfl rfl (fun c177 => absurd c177 (by decide)) (fun c177 => ?_)
            refine q_aload_n rfl rfl rfl ?_
            refine q_getf rfl rfl (by decide) rfl rfl ?_
            refine q_iconst rfl rfl ?_
            refine q_iload_n rfl rfl rfl ?_
            refine q_iadd rfl rfl (q_tn (z := 4) rfl ?_)
            refine q_aload_n rfl rfl rfl ?_
            refine q_getf rfl rfl (by decide) (FW_0 S hW) rfl ?_
            refine q_iload_n rfl rfl rfl ?_
            refine q_nS2 rfl rfl (Or.inl rfl) rfl rfl ⟨rfl, rfl⟩ rfl ?_
            change PQ _ _ _ mm_X0_register 0 [.long 0, pm_un, .int 0] [] _ _ 0 0 _
            refine q_lload_n rfl rfl rfl ?_
            refine q_bipush rfl rfl ?_
            refine q_iload_n rfl rfl rfl ?_
            refine q_imul rfl rfl (q_tn (z := 0) rfl ?_)
            refine q_bipush rfl rfl ?_
            refine q_iadd rfl rfl (q_tn (z := 6) rfl ?_)
            refine q_lushr rfl rfl (q_tnl (z := 0) rfl ?_)
            refine q_l2i rfl rfl (q_tn (z := 0) rfl ?_)
            refine q_bipush rfl rfl ?_
            refine q_iand rfl rfl (q_tn (z := 0) rfl ?_)
            refine q_iret rfl rfl trivial ?_
            refine ⟨_, rfl, ?_⟩
            refine q_i2l rfl rfl (q_tnl (z := 0) rfl ?_)
            refine q_last rfl rfl (by decide) rfl (by decide) ?_
            refine q_icc2 (z := 1) rfl rfl rfl rfl rfl ?_
            refine q_goto rfl ?_
            refine q_iload_n rfl rfl rfl ?_
            refine q_aload_n rfl rfl rfl ?_
            refine q_getf rfl rfl (by decide) (FW_0 S hW) rfl ?_
            refine q_getf rfl rfl (by decide) (FW_1 S hW) rfl ?_
            refine q_icge rfl rfl (fun c178 => ?_) (fun c178 => absurd (by decide) c178)
            refine q_aload_n rfl rfl rfl ?_
            refine q_aret rfl rfl trivial ?_
            refine ⟨_, rfl, ?_⟩
            rcases i_en7 (i_nlt c1) (i_ltle (i_nle c8) (B := 7) rfl) with rfl | rfl | rfl | rfl | rfl | rfl | rfl | rfl
            · refine q_aast rfl rfl (by decide) (by decide) (FW_43 S hW) rfl rfl (by decide) ?_
              refine q_iconst rfl rfl ?_
              refine q_iret rfl rfl trivial ?_
              refine ⟨_, rfl, ?_⟩
              refine q_aload_n rfl rfl rfl ?_
              refine q_aload_nF rfl rfl rfl ?_
              refine q_iload rfl rfl rfl ?_
              refine q_iconst rfl rfl ?_
              refine q_iadd rfl rfl (q_tn (z := 1) rfl ?_)
              refine q_ialdX (x := 0) rfl rfl rfl hx1 ?_
              refine q_aload_nF rfl rfl rfl ?_
              refine q_iload rfl rfl rfl ?_
              refine q_iconst rfl rfl ?_
              refine q_iadd rfl rfl (q_tn (z := 2) rfl ?_)
              refine q_ialdX (x := 3) rfl rfl rfl hx2 ?_
              refine q_aload_nF rfl rfl rfl ?_
              refine q_iload rfl rfl rfl ?_
              refine q_iconst rfl rfl ?_
              refine q_iadd rfl rfl (q_tn (z := 3) rfl ?_)
              refine q_ialdX (x := x3) rfl rfl rfl hx3 ?_
              refine q_aload_nF rfl rfl rfl ?_
              refine q_iload rfl rfl rfl ?_
              refine q_iconst rfl rfl ?_
              refine q_iadd rfl rfl (q_tn (z := 4) rfl ?_)
              refine q_ialdX (x := x4) rfl rfl rfl hx4 ?_
              refine q_nV4 rfl rfl (Or.inl rfl) rfl rfl rfl (by decide) (FW_46 S hW) ⟨rfl, rfl⟩ rfl ?_
              change PQ _ _ _ mm_X12_keep 0 [.ref 46, .int 0, .int 3, .int x3, .int x4, pm_un, pm_un] [] _ _ 0 0 _
              refine q_aload_n rfl rfl rfl ?_
              refine q_iload_n rfl rfl rfl ?_
              refine q_nV1 rfl rfl (Or.inl rfl) rfl rfl rfl (by decide) (FW_46 S hW) ⟨rfl, rfl⟩ rfl ?_
              change PQ _ _ _ mm_X12_isShelf 0 [.ref 46, .int 0] [] _ _ 0 0 _
              refine q_aload_n rfl rfl rfl ?_
              refine q_iload_n rfl rfl rfl ?_
              refine q_iconst rfl rfl ?_
              refine q_bipush rfl rfl ?_
              refine q_nV3 rfl rfl (Or.inl rfl) rfl rfl rfl (by decide) (FW_46 S hW) ⟨rfl, rfl⟩ rfl ?_
              change PQ _ _ _ mm_X12_in 0 [.ref 46, .int 0, .int 0, .int 7] [] _ _ 0 0 _
              refine q_iload_n rfl rfl rfl ?_
              refine q_iload_n rfl rfl rfl ?_
              refine q_iclt rfl rfl (fun c179 => absurd c179 (by decide)) (fun c179 => ?_)
              refine q_iload_n rfl rfl rfl ?_
              refine q_iload_n rfl rfl rfl ?_
              refine q_icgt rfl rfl (fun c180 => absurd c180 (by decide)) (fun c180 => ?_)
              refine q_iconst rfl rfl ?_
              refine q_goto rfl ?_
              refine q_iret rfl rfl rfl ?_
              refine ⟨_, rfl, ?_⟩
              refine q_iret rfl rfl rfl ?_
              refine ⟨_, rfl, ?_⟩
              refine q_ifeq rfl rfl (fun c181 => absurd c181 (by decide)) (fun c181 => ?_)
              refine q_iload_n rfl rfl rfl ?_
              refine q_ifeq rfl rfl (fun c182 => absurd c182 (by decide)) (fun c182 => ?_)
              refine q_iload_n rfl rfl rfl ?_
              refine q_iconst rfl rfl ?_
              refine q_iceq rfl rfl (fun c183 => ?_) (fun c183 => absurd (by decide) c183)
              refine q_iconst rfl rfl ?_
              refine q_goto rfl ?_
              refine q_ist5 rfl rfl rfl rfl ?_
              refine q_iload rfl rfl rfl ?_
              refine q_ifne rfl rfl (fun c184 => absurd c184 (by decide)) (fun c184 => ?_)
              refine q_aload_n rfl rfl rfl ?_
              refine q_getf rfl rfl (by decide) (FW_46 S hW) rfl ?_
              refine q_iload_n rfl rfl rfl ?_
              refine q_iload_n rfl rfl rfl ?_
              refine q_iast rfl rfl (by decide) (FW_75 S hW) (by decide) ?_
              refine q_aload_n rfl rfl rfl ?_
              refine q_iload_n rfl rfl rfl ?_
              refine q_cV1v rfl rfl (Or.inl rfl) rfl rfl rfl (by decide) (FW_46 S hW) ⟨rfl, rfl⟩ rfl (fun K' hK' => l_clear (D := 0) (by decide) rfl (by decide) (FW_46 S hW) rfl (FW_79 S hW) hK') ?_
              refine q_iload_n rfl rfl rfl ?_
              refine q_iconst rfl rfl ?_
              refine q_icne rfl rfl (fun c185 => absurd c185 (by decide)) (fun c185 => ?_)
              refine q_iload_n rfl rfl rfl ?_
              refine q_iconst rfl rfl ?_
              refine q_icne rfl rfl (fun c186 => ?_) (fun c186 => absurd (by decide) c186)
              refine q_aload_n rfl rfl rfl ?_
              refine q_getf rfl rfl (by decide) (FW_46 S hW) rfl ?_
              refine q_iload_n rfl rfl rfl ?_
              refine q_iconst rfl rfl ?_
              refine q_aload_n rfl rfl rfl ?_
              refine q_getf rfl rfl (by decide) (FW_46 S hW) rfl ?_
              refine q_iadd rfl rfl (q_tn (z := 5) rfl ?_)
              refine q_iast rfl rfl (by decide) (FW_78 S hW) (by decide) ?_
              refine q_iconst rfl rfl ?_
              refine q_ist6 rfl rfl rfl rfl ?_
              refine q_iload rfl rfl rfl ?_
              refine q_iconst rfl rfl ?_
              refine q_icge rfl rfl (fun c187 => absurd c187 (by decide)) (fun c187 => ?_)
              refine q_aload_n rfl rfl rfl ?_
              refine q_getf rfl rfl (by decide) (FW_46 S hW) rfl ?_
              refine q_bipush rfl rfl ?_
              refine q_iload_n rfl rfl rfl ?_
              refine q_imul rfl rfl (q_tn (z := 0) rfl ?_)
              refine q_iload rfl rfl rfl ?_
              refine q_iadd rfl rfl (q_tn (z := 0) rfl ?_)
              refine q_aload_n rfl rfl rfl ?_
              refine q_getf rfl rfl (by decide) (FW_46 S hW) rfl ?_
              refine q_bipush rfl rfl ?_
              refine q_iload rfl rfl rfl ?_
              refine q_iadd rfl rfl (q_tn (z := 12) rfl ?_)
              refine q_iald rfl rfl (by decide) (FW_54 S hW) (by decide) (q_tn (z := 0) rfl ?_)
              refine q_i2l rfl rfl (q_tnl (z := 0) rfl ?_)
              refine q_last rfl rfl (by decide) (FW_79 S hW) (by decide) ?_
              refine q_icc6 (z := 1) rfl rfl rfl rfl rfl ?_
              refine q_goto rfl ?_
              refine q_iload rfl rfl rfl ?_
              refine q_iconst rfl rfl ?_
              refine q_icge rfl rfl (fun c188 => absurd c188 (by decide)) (fun c188 => ?_)
              refine q_aload_n rfl rfl rfl ?_
              refine q_getf rfl rfl (by decide) (FW_46 S hW) rfl ?_
              refine q_bipush rfl rfl ?_
              refine q_iload_n rfl rfl rfl ?_
              refine q_imul rfl rfl (q_tn (z := 0) rfl ?_)
              refine q_iload rfl rfl rfl ?_
              refine q_iadd rfl rfl (q_tn (z := 1) rfl ?_)
              refine q_aload_n rfl rfl rfl ?_
              refine q_getf rfl rfl (by decide) (FW_46 S hW) rfl ?_
              refine q_bipush rfl rfl ?_
              refine q_iload rfl rfl rfl ?_
              refine q_iadd rfl rfl (q_tn (z := 13) rfl ?_)
              refine q_iald rfl rfl (by decide) (FW_54 S hW) (by decide) (q_tn (z := 0) rfl ?_)
              refine q_i2l rfl rfl (q_tnl (z := 0) rfl ?_)
              refine q_last rfl rfl (by decide) rfl (by decide) ?_
              refine q_icc6 (z := 2) rfl rfl rfl rfl rfl ?_
              refine q_goto rfl ?_
              refine q_iload rfl rfl rfl ?_
              refine q_iconst rfl rfl ?_
              refine q_icge rfl rfl (fun c189 => absurd c189 (by decide)) (fun c189 => ?_)
              refine q_aload_n rfl rfl rfl ?_
              refine q_getf rfl rfl (by decide) (FW_46 S hW) rfl ?_
              refine q_bipush rfl rfl ?_
              refine q_iload_n rfl rfl rfl ?_
              refine q_imul rfl rfl (q_tn (z := 0) rfl ?_)
              refine q_iload rfl rfl rfl ?_
              refine q_iadd rfl rfl (q_tn (z := 2) rfl ?_)
              refine q_aload_n rfl rfl rfl ?_
              refine q_getf rfl rfl (by decide) (FW_46 S hW) rfl ?_
              refine q_bipush rfl rfl ?_
              refine q_iload rfl rfl rfl ?_
              refine q_iadd rfl rfl (q_tn (z := 14) rfl ?_)
              refine q_iald rfl rfl (by decide) (FW_54 S hW) (by decide) (q_tn (z := 0) rfl ?_)
              refine q_i2l rfl rfl (q_tnl (z := 0) rfl ?_)
              refine q_last rfl rfl (by decide) rfl (by decide) ?_
              refine q_icc6 (z := 3) rfl rfl rfl rfl rfl ?_
              refine q_goto rfl ?_
              refine q_iload rfl rfl rfl ?_
              refine q_iconst rfl rfl ?_
              refine q_icge rfl rfl (fun c190 => absurd c190 (by decide)) (fun c190 => ?_)
              refine q_aload_n rfl rfl rfl ?_
              refine q_getf rfl rfl (by decide) (FW_46 S hW) rfl ?_
              refine q_bipush rfl rfl ?_
              refine q_iload_n rfl rfl rfl ?_
              refine q_imul rfl rfl (q_tn (z := 0) rfl ?_)
              refine q_iload rfl rfl rfl ?_
              refine q_iadd rfl rfl (q_tn (z := 3) rfl ?_)
              refine q_aload_n rfl rfl rfl ?_
              refine q_getf rfl rfl (by decide) (FW_46 S hW) rfl ?_
              refine q_bipush rfl rfl ?_
              refine q_iload rfl rfl rfl ?_
              refine q_iadd rfl rfl (q_tn (z := 15) rfl ?_)
              refine q_iald rfl rfl (by decide) (FW_54 S hW) (by decide) (q_tn (z := 0) rfl ?_)
              refine q_i2l rfl rfl (q_tnl (z := 0) rfl ?_)
              refine q_last rfl rfl (by decide) rfl (by decide) ?_
              refine q_icc6 (z := 4) rfl rfl rfl rfl rfl ?_
              refine q_goto rfl ?_
              refine q_iload rfl rfl rfl ?_
              refine q_iconst rfl rfl ?_
              refine q_icge rfl rfl (fun c191 => ?_) (fun c191 => absurd (by decide) c191)
              refine q_iconst rfl rfl ?_
              refine q_ist6 rfl rfl rfl rfl ?_
              refine q_iload rfl rfl rfl ?_
              refine q_aload_n rfl rfl rfl ?_
              refine q_getf rfl rfl (by decide) (FW_46 S hW) rfl ?_
              refine q_icge rfl rfl (fun c192 => absurd c192 (by decide)) (fun c192 => ?_)
              refine q_aload_n rfl rfl rfl ?_
              refine q_getf rfl rfl (by decide) (FW_46 S hW) rfl ?_
              refine q_bipush rfl rfl ?_
              refine q_iload_n rfl rfl rfl ?_
              refine q_imul rfl rfl (q_tn (z := 0) rfl ?_)
              refine q_iconst rfl rfl ?_
              refine q_iadd rfl rfl (q_tn (z := 4) rfl ?_)
              refine q_iload rfl rfl rfl ?_
              refine q_iadd rfl rfl (q_tn (z := 4) rfl ?_)
              refine q_aload_n rfl rfl rfl ?_
              refine q_getf rfl rfl (by decide) (FW_46 S hW) rfl ?_
              refine q_iconst rfl rfl ?_
              refine q_iload rfl rfl rfl ?_
              refine q_imul rfl rfl (q_tn (z := 0) rfl ?_)
              refine q_iconst rfl rfl ?_
              refine q_iadd rfl rfl (q_tn (z := 1) rfl ?_)
              refine q_iald rfl rfl (by decide) (FW_54 S hW) (by decide) (q_tn (z := 0) rfl ?_)
              refine q_i2l rfl rfl (q_tnl (z := 0) rfl ?_)
              refine q_last rfl rfl (by decide) rfl (by decide) ?_
              refine q_icc6 (z := 1) rfl rfl rfl rfl rfl ?_
              refine q_goto rfl ?_
              refine q_iload rfl rfl rfl ?_
              refine q_aload_n rfl rfl rfl ?_
              refine q_getf rfl rfl (by decide) (FW_46 S hW) rfl ?_
              refine q_icge rfl rfl (fun c193 => ?_) (fun c193 => absurd (by decide) c193)
              refine q_goto rfl ?_
              refine q_iconst rfl rfl ?_
              refine q_iret rfl rfl trivial ?_
              refine ⟨_, rfl, ?_⟩
              refine q_iceq rfl rfl (fun c194 => ?_) (fun c194 => absurd (by decide) c194)
              refine q_icc4 (z := 6) rfl rfl rfl rfl rfl ?_
              refine q_goto rfl ?_
              refine q_iload rfl rfl rfl ?_
              refine q_aload_nF rfl rfl rfl ?_
              refine q_alenX (x := 6) rfl rfl rfl ?_
              refine q_bipush rfl rfl ?_
              refine q_isub rfl rfl (q_tn (z := 0) rfl ?_)
              refine q_icgt rfl rfl (fun c195 => ?_) (fun c195 => absurd (by decide) c195)
              refine q_iconst rfl rfl ?_
              refine q_iret rfl rfl rfl ?_
              exact hK _ _
            · refine q_aast rfl rfl (by decide) (by decide) (FW_43 S hW) rfl rfl (by decide) ?_
              refine q_iconst rfl rfl ?_
              refine q_iret rfl rfl trivial ?_
              refine ⟨_, rfl, ?_⟩
              refine q_aload_n rfl rfl rfl ?_
              refine q_aload_nF rfl rfl rfl ?_
              refine q_iload rfl rfl rfl ?_
              refine q_iconst rfl rfl ?_
              refine q_iadd rfl rfl (q_tn (z := 1) rfl ?_)
              refine q_ialdX (x := 1) rfl rfl rfl hx1 ?_
              refine q_aload_nF rfl rfl rfl ?_
              refine q_iload rfl rfl rfl ?_
              refine q_iconst rfl rfl ?_
              refine q_iadd rfl rfl (q_tn (z := 2) rfl ?_)
              refine q_ialdX (x := 3) rfl rfl rfl hx2 ?_
              refine q_aload_nF rfl rfl rfl ?_
              refine q_iload rfl rfl rfl ?_
              refine q_iconst rfl rfl ?_
              refine q_iadd rfl rfl (q_tn (z := 3) rfl ?_)
              refine q_ialdX (x := x3) rfl rfl rfl hx3 ?_
              refine q_aload_nF rfl rfl rfl ?_
              refine q_iload rfl rfl rfl ?_
              refine q_iconst rfl rfl ?_
              refine q_iadd rfl rfl (q_tn (z := 4) rfl ?_)
              refine q_ialdX (x := x4) rfl rfl rfl hx4 ?_
              refine q_nV4 rfl rfl (Or.inl rfl) rfl rfl rfl (by decide) (FW_46 S hW) ⟨rfl, rfl⟩ rfl ?_
              change PQ _ _ _ mm_X12_keep 0 [.ref 46, .int 1, .int 3, .int x3, .int x4, pm_un, pm_un] [] _ _ 0 0 _
              refine q_aload_n rfl rfl rfl ?_
              refine q_iload_n rfl rfl rfl ?_
              refine q_nV1 rfl rfl (Or.inl rfl) rfl rfl rfl (by decide) (FW_46 S hW) ⟨rfl, rfl⟩ rfl ?_
              change PQ _ _ _ mm_X12_isShelf 0 [.ref 46, .int 1] [] _ _ 0 0 _
              refine q_aload_n rfl rfl rfl ?_
              refine q_iload_n rfl rfl rfl ?_
              refine q_iconst rfl rfl ?_
              refine q_bipush rfl rfl ?_
              refine q_nV3 rfl rfl (Or.inl rfl) rfl rfl rfl (by decide) (FW_46 S hW) ⟨rfl, rfl⟩ rfl ?_
              change PQ _ _ _ mm_X12_in 0 [.ref 46, .int 1, .int 0, .int 7] [] _ _ 0 0 _
              refine q_iload_n rfl rfl rfl ?_
              refine q_iload_n rfl rfl rfl ?_
              refine q_iclt rfl rfl (fun c196 => absurd c196 (by decide)) (fun c196 => ?_)
              refine q_iload_n rfl rfl rfl ?_
              refine q_iload_n rfl rfl rfl ?_
              refine q_icgt rfl rfl (fun c197 => absurd c197 (by decide)) (fun c197 => ?_)
              refine q_iconst rfl rfl ?_
              refine q_goto rfl ?_
              refine q_iret rfl rfl rfl ?_
              refine ⟨_, rfl, ?_⟩
              refine q_iret rfl rfl rfl ?_
              refine ⟨_, rfl, ?_⟩
              refine q_ifeq rfl rfl (fun c198 => absurd c198 (by decide)) (fun c198 => ?_)
              refine q_iload_n rfl rfl rfl ?_
              refine q_ifeq rfl rfl (fun c199 => absurd c199 (by decide)) (fun c199 => ?_)
              refine q_iload_n rfl rfl rfl ?_
              refine q_iconst rfl rfl ?_
              refine q_iceq rfl rfl (fun c200 => ?_) (fun c200 => absurd (by decide) c200)
              refine q_iconst rfl rfl ?_
              refine q_goto rfl ?_
              refine q_ist5 rfl rfl rfl rfl ?_
              refine q_iload rfl rfl rfl ?_
              refine q_ifne rfl rfl (fun c201 => absurd c201 (by decide)) (fun c201 => ?_)
              refine q_aload_n rfl rfl rfl ?_
              refine q_getf rfl rfl (by decide) (FW_46 S hW) rfl ?_
              refine q_iload_n rfl rfl rfl ?_
              refine q_iload_n rfl rfl rfl ?_
              refine q_iast rfl rfl (by decide) (FW_75 S hW) (by decide) ?_
              refine q_aload_n rfl rfl rfl ?_
              refine q_iload_n rfl rfl rfl ?_
              refine q_cV1v rfl rfl (Or.inl rfl) rfl rfl rfl (by decide) (FW_46 S hW) ⟨rfl, rfl⟩ rfl (fun K' hK' => l_clear (D := 1) (by decide) rfl (by decide) (FW_46 S hW) rfl (FW_79 S hW) hK') ?_
              refine q_iload_n rfl rfl rfl ?_
              refine q_iconst rfl rfl ?_
              refine q_icne rfl rfl (fun c202 => absurd c202 (by decide)) (fun c202 => ?_)
              refine q_iload_n rfl rfl rfl ?_
              refine q_iconst rfl rfl ?_
              refine q_icne rfl rfl (fun c203 => ?_) (fun c203 => absurd (by decide) c203)
              refine q_aload_n rfl rfl rfl ?_
              refine q_getf rfl rfl (by decide) (FW_46 S hW) rfl ?_
              refine q_iload_n rfl rfl rfl ?_
              refine q_iconst rfl rfl ?_
              refine q_aload_n rfl rfl rfl ?_
              refine q_getf rfl rfl (by decide) (FW_46 S hW) rfl ?_
              refine q_iadd rfl rfl (q_tn (z := 5) rfl ?_)
              refine q_iast rfl rfl (by decide) (FW_78 S hW) (by decide) ?_
              refine q_iconst rfl rfl ?_
              refine q_ist6 rfl rfl rfl rfl ?_
              refine q_iload rfl rfl rfl ?_
              refine q_iconst rfl rfl ?_
              refine q_icge rfl rfl (fun c204 => absurd c204 (by decide)) (fun c204 => ?_)
              refine q_aload_n rfl rfl rfl ?_
              refine q_getf rfl rfl (by decide) (FW_46 S hW) rfl ?_
              refine q_bipush rfl rfl ?_
              refine q_iload_n rfl rfl rfl ?_
              refine q_imul rfl rfl (q_tn (z := 60) rfl ?_)
              refine q_iload rfl rfl rfl ?_
              refine q_iadd rfl rfl (q_tn (z := 60) rfl ?_)
              refine q_aload_n rfl rfl rfl ?_
              refine q_getf rfl rfl (by decide) (FW_46 S hW) rfl ?_
              refine q_bipush rfl rfl ?_
              refine q_iload rfl rfl rfl ?_
              refine q_iadd rfl rfl (q_tn (z := 12) rfl ?_)
              refine q_iald rfl rfl (by decide) (FW_54 S hW) (by decide) (q_tn (z := 0) rfl ?_)
              refine q_i2l rfl rfl (q_tnl (z := 0) rfl ?_)
              refine q_last rfl rfl (by decide) (FW_79 S hW) (by decide) ?_
              refine q_icc6 (z := 1) rfl rfl rfl rfl rfl ?_
              refine q_goto rfl ?_
              refine q_iload rfl rfl rfl ?_
              refine q_iconst rfl rfl ?_
              refine q_icge rfl rfl (fun c205 => absurd c205 (by decide)) (fun c205 => ?_)
              refine q_aload_n rfl rfl rfl ?_
              refine q_getf rfl rfl (by decide) (FW_46 S hW) rfl ?_
              refine q_bipush rfl rfl ?_
              refine q_iload_n rfl rfl rfl ?_
              refine q_imul rfl rfl (q_tn (z := 60) rfl ?_)
              refine q_iload rfl rfl rfl ?_
              refine q_iadd rfl rfl (q_tn (z := 61) rfl ?_)
              refine q_aload_n rfl rfl rfl ?_
              refine q_getf rfl rfl (by decide) (FW_46 S hW) rfl ?_
              refine q_bipush rfl rfl ?_
              refine q_iload rfl rfl rfl ?_
              refine q_iadd rfl rfl (q_tn (z := 13) rfl ?_)
              refine q_iald rfl rfl (by decide) (FW_54 S hW) (by decide) (q_tn (z := 0) rfl ?_)
              refine q_i2l rfl rfl (q_tnl (z := 0) rfl ?_)
              refine q_last rfl rfl (by decide) rfl (by decide) ?_
              refine q_icc6 (z := 2) rfl rfl rfl rfl rfl ?_
              refine q_goto rfl ?_
              refine q_iload rfl rfl rfl ?_
              refine q_iconst rfl rfl ?_
              refine q_icge rfl rfl (fun c206 => absurd c206 (by decide)) (fun c206 => ?_)
              refine q_aload_n rfl rfl rfl ?_
              refine q_getf rfl rfl (by decide) (FW_46 S hW) rfl ?_
              refine q_bipush rfl rfl ?_
              refine q_iload_n rfl rfl rfl ?_
              refine q_imul rfl rfl (q_tn (z := 60) rfl ?_)
              refine q_iload rfl rfl rfl ?_
              refine q_iadd rfl rfl (q_tn (z := 62) rfl ?_)
              refine q_aload_n rfl rfl rfl ?_
              refine q_getf rfl rfl (by decide) (FW_46 S hW) rfl ?_
              refine q_bipush rfl rfl ?_
              refine q_iload rfl rfl rfl ?_
              refine q_iadd rfl rfl (q_tn (z := 14) rfl ?_)
              refine q_iald rfl rfl (by decide) (FW_54 S hW) (by decide) (q_tn (z := 0) rfl ?_)
              refine q_i2l rfl rfl (q_tnl (z := 0) rfl ?_)
              refine q_last rfl rfl (by decide) rfl (by decide) ?_
              refine q_icc6 (z := 3) rfl rfl rfl rfl rfl ?_
              refine q_goto rfl ?_
              refine q_iload rfl rfl rfl ?_
              refine q_iconst rfl rfl ?_
              refine q_icge rfl rfl (fun c207 => absurd c207 (by decide)) (fun c207 => ?_)
              refine q_aload_n rfl rfl rfl ?_
              refine q_getf rfl rfl (by decide) (FW_46 S hW) rfl ?_
              refine q_bipush rfl rfl ?_
              refine q_iload_n rfl rfl rfl ?_
              refine q_imul rfl rfl (q_tn (z := 60) rfl ?_)
              refine q_iload rfl rfl rfl ?_
              refine q_iadd rfl rfl (q_tn (z := 63) rfl ?_)
              refine q_aload_n rfl rfl rfl ?_
              refine q_getf rfl rfl (by decide) (FW_46 S hW) rfl ?_
              refine q_bipush rfl rfl ?_
              refine q_iload rfl rfl rfl ?_
              refine q_iadd rfl rfl (q_tn (z := 15) rfl ?_)
              refine q_iald rfl rfl (by decide) (FW_54 S hW) (by decide) (q_tn (z := 0) rfl ?_)
              refine q_i2l rfl rfl (q_tnl (z := 0) rfl ?_)
              refine q_last rfl rfl (by decide) rfl (by decide) ?_
              refine q_icc6 (z := 4) rfl rfl rfl rfl rfl ?_
              refine q_goto rfl ?_
              refine q_iload rfl rfl rfl ?_
              refine q_iconst rfl rfl ?_
              refine q_icge rfl rfl (fun c208 => ?_) (fun c208 => absurd (by decide) c208)
              refine q_iconst rfl rfl ?_
              refine q_ist6 rfl rfl rfl rfl ?_
              refine q_iload rfl rfl rfl ?_
              refine q_aload_n rfl rfl rfl ?_
              refine q_getf rfl rfl (by decide) (FW_46 S hW) rfl ?_
              refine q_icge rfl rfl (fun c209 => absurd c209 (by decide)) (fun c209 => ?_)
              refine q_aload_n rfl rfl rfl ?_
              refine q_getf rfl rfl (by decide) (FW_46 S hW) rfl ?_
              refine q_bipush rfl rfl ?_
              refine q_iload_n rfl rfl rfl ?_
              refine q_imul rfl rfl (q_tn (z := 60) rfl ?_)
              refine q_iconst rfl rfl ?_
              refine q_iadd rfl rfl (q_tn (z := 64) rfl ?_)
              refine q_iload rfl rfl rfl ?_
              refine q_iadd rfl rfl (q_tn (z := 64) rfl ?_)
              refine q_aload_n rfl rfl rfl ?_
              refine q_getf rfl rfl (by decide) (FW_46 S hW) rfl ?_
              refine q_iconst rfl rfl ?_
              refine q_iload rfl rfl rfl ?_
              refine q_imul rfl rfl (q_tn (z := 0) rfl ?_)
              refine q_iconst rfl rfl ?_
              refine q_iadd rfl rfl (q_tn (z := 1) rfl ?_)
              refine q_iald rfl rfl (by decide) (FW_54 S hW) (by decide) (q_tn (z := 0) rfl ?_)
              refine q_i2l rfl rfl (q_tnl (z := 0) rfl ?_)
              refine q_last rfl rfl (by decide) rfl (by decide) ?_
              refine q_icc6 (z := 1) rfl rfl rfl rfl rfl ?_
              refine q_goto rfl ?_
              refine q_iload rfl rfl rfl ?_
              refine q_aload_n rfl rfl rfl ?_
              refine q_getf rfl rfl (by decide) (FW_46 S hW) rfl ?_
              refine q_icge rfl rfl (fun c210 => ?_) (fun c210 => absurd (by decide) c210)
              refine q_goto rfl ?_
              refine q_iconst rfl rfl ?_
              refine q_iret rfl rfl trivial ?_
              refine ⟨_, rfl, ?_⟩
              refine q_iceq rfl rfl (fun c211 => ?_) (fun c211 => absurd (by decide) c211)
              refine q_icc4 (z := 6) rfl rfl rfl rfl rfl ?_
              refine q_goto rfl ?_
              refine q_iload rfl rfl rfl ?_
              refine q_aload_nF rfl rfl rfl ?_
              refine q_alenX (x := 6) rfl rfl rfl ?_
              refine q_bipush rfl rfl ?_
              refine q_isub rfl rfl (q_tn (z := 0) rfl ?_)
              refine q_icgt rfl rfl (fun c212 => ?_) (fun c212 => absurd (by decide) c212)
              refine q_iconst rfl rfl ?_
              refine q_iret rfl rfl rfl ?_
              exact hK _ _
            · refine q_aast rfl rfl (by decide) (by decide) (FW_43 S hW) rfl rfl (by decide) ?_
              refine q_iconst rfl rfl ?_
              refine q_iret rfl rfl trivial ?_
              refine ⟨_, rfl, ?_⟩
              refine q_aload_n rfl rfl rfl ?_
              refine q_aload_nF rfl rfl rfl ?_
              refine q_iload rfl rfl rfl ?_
              refine q_iconst rfl rfl ?_
              refine q_iadd rfl rfl (q_tn (z := 1) rfl ?_)
              refine q_ialdX (x := 2) rfl rfl rfl hx1 ?_
              refine q_aload_nF rfl rfl rfl ?_
              refine q_iload rfl rfl rfl ?_
              refine q_iconst rfl rfl ?_
              refine q_iadd rfl rfl (q_tn (z := 2) rfl ?_)
              refine q_ialdX (x := 3) rfl rfl rfl hx2 ?_
              refine q_aload_nF rfl rfl rfl ?_
              refine q_iload rfl rfl rfl ?_
              refine q_iconst rfl rfl ?_
              refine q_iadd rfl rfl (q_tn (z := 3) rfl ?_)
              refine q_ialdX (x := x3) rfl rfl rfl hx3 ?_
              refine q_aload_nF rfl rfl rfl ?_
              refine q_iload rfl rfl rfl ?_
              refine q_iconst rfl rfl ?_
              refine q_iadd rfl rfl (q_tn (z := 4) rfl ?_)
              refine q_ialdX (x := x4) rfl rfl rfl hx4 ?_
              refine q_nV4 rfl rfl (Or.inl rfl) rfl rfl rfl (by decide) (FW_46 S hW) ⟨rfl, rfl⟩ rfl ?_
              change PQ _ _ _ mm_X12_keep 0 [.ref 46, .int 2, .int 3, .int x3, .int x4, pm_un, pm_un] [] _ _ 0 0 _
              refine q_aload_n rfl rfl rfl ?_
              refine q_iload_n rfl rfl rfl ?_
              refine q_nV1 rfl rfl (Or.inl rfl) rfl rfl rfl (by decide) (FW_46 S hW) ⟨rfl, rfl⟩ rfl ?_
              change PQ _ _ _ mm_X12_isShelf 0 [.ref 46, .int 2] [] _ _ 0 0 _
              refine q_aload_n rfl rfl rfl ?_
              refine q_iload_n rfl rfl rfl ?_
              refine q_iconst rfl rfl ?_
              refine q_bipush rfl rfl ?_
              refine q_nV3 rfl rfl (Or.inl rfl) rfl rfl rfl (by decide) (FW_46 S hW) ⟨rfl, rfl⟩ rfl ?_
              change PQ _ _ _ mm_X12_in 0 [.ref 46, .int 2, .int 0, .int 7] [] _ _ 0 0 _
              refine q_iload_n rfl rfl rfl ?_
              refine q_iload_n rfl rfl rfl ?_
              refine q_iclt rfl rfl (fun c213 => absurd c213 (by decide)) (fun c213 => ?_)
              refine q_iload_n rfl rfl rfl ?_
              refine q_iload_n rfl rfl rfl ?_
              refine q_icgt rfl rfl (fun c214 => absurd c214 (by decide)) (fun c214 => ?_)
              refine q_iconst rfl rfl ?_
              refine q_goto rfl ?_
              refine q_iret rfl rfl rfl ?_
              refine ⟨_, rfl, ?_⟩
              refine q_iret rfl rfl rfl ?_
              refine ⟨_, rfl, ?_⟩
              refine q_ifeq rfl rfl (fun c215 => absurd c215 (by decide)) (fun c215 => ?_)
              refine q_iload_n rfl rfl rfl ?_
              refine q_ifeq rfl rfl (fun c216 => absurd c216 (by decide)) (fun c216 => ?_)
              refine q_iload_n rfl rfl rfl ?_
              refine q_iconst rfl rfl ?_
              refine q_iceq rfl rfl (fun c217 => ?_) (fun c217 => absurd (by decide) c217)
              refine q_iconst rfl rfl ?_
              refine q_goto rfl ?_
              refine q_ist5 rfl rfl rfl rfl ?_
              refine q_iload rfl rfl rfl ?_
              refine q_ifne rfl rfl (fun c218 => absurd c218 (by decide)) (fun c218 => ?_)
              refine q_aload_n rfl rfl rfl ?_
              refine q_getf rfl rfl (by decide) (FW_46 S hW) rfl ?_
              refine q_iload_n rfl rfl rfl ?_
              refine q_iload_n rfl rfl rfl ?_
              refine q_iast rfl rfl (by decide) (FW_75 S hW) (by decide) ?_
              refine q_aload_n rfl rfl rfl ?_
              refine q_iload_n rfl rfl rfl ?_
              refine q_cV1v rfl rfl (Or.inl rfl) rfl rfl rfl (by decide) (FW_46 S hW) ⟨rfl, rfl⟩ rfl (fun K' hK' => l_clear (D := 2) (by decide) rfl (by decide) (FW_46 S hW) rfl (FW_79 S hW) hK') ?_
              refine q_iload_n rfl rfl rfl ?_
              refine q_iconst rfl rfl ?_
              refine q_icne rfl rfl (fun c219 => absurd c219 (by decide)) (fun c219 => ?_)
              refine q_iload_n rfl rfl rfl ?_
              refine q_iconst rfl rfl ?_
              refine q_icne rfl rfl (fun c220 => ?_) (fun c220 => absurd (by decide) c220)
              refine q_aload_n rfl rfl rfl ?_
              refine q_getf rfl rfl (by decide) (FW_46 S hW) rfl ?_
              refine q_iload_n rfl rfl rfl ?_
              refine q_iconst rfl rfl ?_
              refine q_aload_n rfl rfl rfl ?_
              refine q_getf rfl rfl (by decide) (FW_46 S hW) rfl ?_
              refine q_iadd rfl rfl (q_tn (z := 5) rfl ?_)
              refine q_iast rfl rfl (by decide) (FW_78 S hW) (by decide) ?_
              refine q_iconst rfl rfl ?_
              refine q_ist6 rfl rfl rfl rfl ?_
              refine q_iload rfl rfl rfl ?_
              refine q_iconst rfl rfl ?_
              refine q_icge rfl rfl (fun c221 => absurd c221 (by decide)) (fun c221 => ?_)
              refine q_aload_n rfl rfl rfl ?_
              refine q_getf rfl rfl (by decide) (FW_46 S hW) rfl ?_
              refine q_bipush rfl rfl ?_
              refine q_iload_n rfl rfl rfl ?_
              refine q_imul rfl rfl (q_tn (z := 120) rfl ?_)
              refine q_iload rfl rfl rfl ?_
              refine q_iadd rfl rfl (q_tn (z := 120) rfl ?_)
              refine q_aload_n rfl rfl rfl ?_
              refine q_getf rfl rfl (by decide) (FW_46 S hW) rfl ?_
              refine q_bipush rfl rfl ?_
              refine q_iload rfl rfl rfl ?_
              refine q_iadd rfl rfl (q_tn (z := 12) rfl ?_)
              refine q_iald rfl rfl (by decide) (FW_54 S hW) (by decide) (q_tn (z := 0) rfl ?_)
              refine q_i2l rfl rfl (q_tnl (z := 0) rfl ?_)
              refine q_last rfl rfl (by decide) (FW_79 S hW) (by decide) ?_
              refine q_icc6 (z := 1) rfl rfl rfl rfl rfl ?_
              refine q_goto rfl ?_
              refine q_iload rfl rfl rfl ?_
              refine q_iconst rfl rfl ?_
              refine q_icge rfl rfl (fun c222 => absurd c222 (by decide)) (fun c222 => ?_)
              refine q_aload_n rfl rfl rfl ?_
              refine q_getf rfl rfl (by decide) (FW_46 S hW) rfl ?_
              refine q_bipush rfl rfl ?_
              refine q_iload_n rfl rfl rfl ?_
              refine q_imul rfl rfl (q_tn (z := 120) rfl ?_)
              refine q_iload rfl rfl rfl ?_
              refine q_iadd rfl rfl (q_tn (z := 121) rfl ?_)
              refine q_aload_n rfl rfl rfl ?_
              refine q_getf rfl rfl (by decide) (FW_46 S hW) rfl ?_
              refine q_bipush rfl rfl ?_
              refine q_iload rfl rfl rfl ?_
              refine q_iadd rfl rfl (q_tn (z := 13) rfl ?_)
              refine q_iald rfl rfl (by decide) (FW_54 S hW) (by decide) (q_tn (z := 0) rfl ?_)
              refine q_i2l rfl rfl (q_tnl (z := 0) rfl ?_)
              refine q_last rfl rfl (by decide) rfl (by decide) ?_
              refine q_icc6 (z := 2) rfl rfl rfl rfl rfl ?_
              refine q_goto rfl ?_
              refine q_iload rfl rfl rfl ?_
              refine q_iconst rfl rfl ?_
              refine q_icge rfl rfl (fun c223 => absurd c223 (by decide)) (fun c223 => ?_)
              refine q_aload_n rfl rfl rfl ?_
              refine q_getf rfl rfl (by decide) (FW_46 S hW) rfl ?_
              refine q_bipush rfl rfl ?_
              refine q_iload_n rfl rfl rfl ?_
              refine q_imul rfl rfl (q_tn (z := 120) rfl ?_)
              refine q_iload rfl rfl rfl ?_
              refine q_iadd rfl rfl (q_tn (z := 122) rfl ?_)
              refine q_aload_n rfl rfl rfl ?_
              refine q_getf rfl rfl (by decide) (FW_46 S hW) rfl ?_
              refine q_bipush rfl rfl ?_
              refine q_iload rfl rfl rfl ?_
              refine q_iadd rfl rfl (q_tn (z := 14) rfl ?_)
              refine q_iald rfl rfl (by decide) (FW_54 S hW) (by decide) (q_tn (z := 0) rfl ?_)
              refine q_i2l rfl rfl (q_tnl (z := 0) rfl ?_)
              refine q_last rfl rfl (by decide) rfl (by decide) ?_
              refine q_icc6 (z := 3) rfl rfl rfl rfl rfl ?_
              refine q_goto rfl ?_
              refine q_iload rfl rfl rfl ?_
              refine q_iconst rfl rfl ?_
              refine q_icge rfl rfl (fun c224 => absurd c224 (by decide)) (fun c224 => ?_)
              refine q_aload_n rfl rfl rfl ?_
              refine q_getf rfl rfl (by decide) (FW_46 S hW) rfl ?_
              refine q_bipush rfl rfl ?_
              refine q_iload_n rfl rfl rfl ?_
              refine q_imul rfl rfl (q_tn (z := 120) rfl ?_)
              refine q_iload rfl rfl rfl ?_
              refine q_iadd rfl rfl (q_tn (z := 123) rfl ?_)
              refine q_aload_n rfl rfl rfl ?_
              refine q_getf rfl rfl (by decide) (FW_46 S hW) rfl ?_
              refine q_bipush rfl rfl ?_
              refine q_iload rfl rfl rfl ?_
              refine q_iadd rfl rfl (q_tn (z := 15) rfl ?_)
              refine q_iald rfl rfl (by decide) (FW_54 S hW) (by decide) (q_tn (z := 0) rfl ?_)
              refine q_i2l rfl rfl (q_tnl (z := 0) rfl ?_)
              refine q_last rfl rfl (by decide) rfl (by decide) ?_
              refine q_icc6 (z := 4) rfl rfl rfl rfl rfl ?_
              refine q_goto rfl ?_
              refine q_iload rfl rfl rfl ?_
              refine q_iconst rfl rfl ?_
              refine q_icge rfl rfl (fun c225 => ?_) (fun c225 => absurd (by decide) c225)
              refine q_iconst rfl rfl ?_
              refine q_ist6 rfl rfl rfl rfl ?_
              refine q_iload rfl rfl rfl ?_
              refine q_aload_n rfl rfl rfl ?_
              refine q_getf rfl rfl (by decide) (FW_46 S hW) rfl ?_
              refine q_icge rfl rfl (fun c226 => absurd c226 (by decide)) (fun c226 => ?_)
              refine q_aload_n rfl rfl rfl ?_
              refine q_getf rfl rfl (by decide) (FW_46 S hW) rfl ?_
              refine q_bipush rfl rfl ?_
              refine q_iload_n rfl rfl rfl ?_
              refine q_imul rfl rfl (q_tn (z := 120) rfl ?_)
              refine q_iconst rfl rfl ?_
              refine q_iadd rfl rfl (q_tn (z := 124) rfl ?_)
              refine q_iload rfl rfl rfl ?_
              refine q_iadd rfl rfl (q_tn (z := 124) rfl ?_)
              refine q_aload_n rfl rfl rfl ?_
              refine q_getf rfl rfl (by decide) (FW_46 S hW) rfl ?_
              refine q_iconst rfl rfl ?_
              refine q_iload rfl rfl rfl ?_
              refine q_imul rfl rfl (q_tn (z := 0) rfl ?_)
              refine q_iconst rfl rfl ?_
              refine q_iadd rfl rfl (q_tn (z := 1) rfl ?_)
              refine q_iald rfl rfl (by decide) (FW_54 S hW) (by decide) (q_tn (z := 0) rfl ?_)
              refine q_i2l rfl rfl (q_tnl (z := 0) rfl ?_)
              refine q_last rfl rfl (by decide) rfl (by decide) ?_
              refine q_icc6 (z := 1) rfl rfl rfl rfl rfl ?_
              refine q_goto rfl ?_
              refine q_iload rfl rfl rfl ?_
              refine q_aload_n rfl rfl rfl ?_
              refine q_getf rfl rfl (by decide) (FW_46 S hW) rfl ?_
              refine q_icge rfl rfl (fun c227 => ?_) (fun c227 => absurd (by decide) c227)
              refine q_goto rfl ?_
              refine q_iconst rfl rfl ?_
              refine q_iret rfl rfl trivial ?_
              refine ⟨_, rfl, ?_⟩
              refine q_iceq rfl rfl (fun c228 => ?_) (fun c228 => absurd (by decide) c228)
              refine q_icc4 (z := 6) rfl rfl rfl rfl rfl ?_
              refine q_goto rfl ?_
              refine q_iload rfl rfl rfl ?_
              refine q_aload_nF rfl rfl rfl ?_
              refine q_alenX (x := 6) rfl rfl rfl ?_
              refine q_bipush rfl rfl ?_
              refine q_isub rfl rfl (q_tn (z := 0) rfl ?_)
              refine q_icgt rfl rfl (fun c229 => ?_) (fun c229 => absurd (by decide) c229)
              refine q_iconst rfl rfl ?_
              refine q_iret rfl rfl rfl ?_
              exact hK _ _
            · refine q_aast rfl rfl (by decide) (by decide) (FW_43 S hW) rfl rfl (by decide) ?_
              refine q_iconst rfl rfl ?_
              refine q_iret rfl rfl trivial ?_
              refine ⟨_, rfl, ?_⟩
              refine q_aload_n rfl rfl rfl ?_
              refine q_aload_nF rfl rfl rfl ?_
              refine q_iload rfl rfl rfl ?_
              refine q_iconst rfl rfl ?_
              refine q_iadd rfl rfl (q_tn (z := 1) rfl ?_)
              refine q_ialdX (x := 3) rfl rfl rfl hx1 ?_
              refine q_aload_nF rfl rfl rfl ?_
              refine q_iload rfl rfl rfl ?_
              refine q_iconst rfl rfl ?_
              refine q_iadd rfl rfl (q_tn (z := 2) rfl ?_)
              refine q_ialdX (x := 3) rfl rfl rfl hx2 ?_
              refine q_aload_nF rfl rfl rfl ?_
              refine q_iload rfl rfl rfl ?_
              refine q_iconst rfl rfl ?_
              refine q_iadd rfl rfl (q_tn (z := 3) rfl ?_)
              refine q_ialdX (x := x3) rfl rfl rfl hx3 ?_
              refine q_aload_nF rfl rfl rfl ?_
              refine q_iload rfl rfl rfl ?_
              refine q_iconst rfl rfl ?_
              refine q_iadd rfl rfl (q_tn (z := 4) rfl ?_)
              refine q_ialdX (x := x4) rfl rfl rfl hx4 ?_
              refine q_nV4 rfl rfl (Or.inl rfl) rfl rfl rfl (by decide) (FW_46 S hW) ⟨rfl, rfl⟩ rfl ?_
              change PQ _ _ _ mm_X12_keep 0 [.ref 46, .int 3, .int 3, .int x3, .int x4, pm_un, pm_un] [] _ _ 0 0 _
              refine q_aload_n rfl rfl rfl ?_
              refine q_iload_n rfl rfl rfl ?_
              refine q_nV1 rfl rfl (Or.inl rfl) rfl rfl rfl (by decide) (FW_46 S hW) ⟨rfl, rfl⟩ rfl ?_
              change PQ _ _ _ mm_X12_isShelf 0 [.ref 46, .int 3] [] _ _ 0 0 _
              refine q_aload_n rfl rfl rfl ?_
              refine q_iload_n rfl rfl rfl ?_
              refine q_iconst rfl rfl ?_
              refine q_bipush rfl rfl ?_
              refine q_nV3 rfl rfl (Or.inl rfl) rfl rfl rfl (by decide) (FW_46 S hW) ⟨rfl, rfl⟩ rfl ?_
              change PQ _ _ _ mm_X12_in 0 [.ref 46, .int 3, .int 0, .int 7] [] _ _ 0 0 _
              refine q_iload_n rfl rfl rfl ?_
              refine q_iload_n rfl rfl rfl ?_
              refine q_iclt rfl rfl (fun c230 => absurd c230 (by decide)) (fun c230 => ?_)
              refine q_iload_n rfl rfl rfl ?_
              refine q_iload_n rfl rfl rfl ?_
              refine q_icgt rfl rfl (fun c231 => absurd c231 (by decide)) (fun c231 => ?_)
              refine q_iconst rfl rfl ?_
              refine q_goto rfl ?_
              refine q_iret rfl rfl rfl ?_
              refine ⟨_, rfl, ?_⟩
              refine q_iret rfl rfl rfl ?_
              refine ⟨_, rfl, ?_⟩
              refine q_ifeq rfl rfl (fun c232 => absurd c232 (by decide)) (fun c232 => ?_)
              refine q_iload_n rfl rfl rfl ?_
              refine q_ifeq rfl rfl (fun c233 => absurd c233 (by decide)) (fun c233 => ?_)
              refine q_iload_n rfl rfl rfl ?_
              refine q_iconst rfl rfl ?_
              refine q_iceq rfl rfl (fun c234 => ?_) (fun c234 => absurd (by decide) c234)
              refine q_iconst rfl rfl ?_
              refine q_goto rfl ?_
              refine q_ist5 rfl rfl rfl rfl ?_
              refine q_iload rfl rfl rfl ?_
              refine q_ifne rfl rfl (fun c235 => absurd c235 (by decide)) (fun c235 => ?_)
              refine q_aload_n rfl rfl rfl ?_
              refine q_getf rfl rfl (by decide) (FW_46 S hW) rfl ?_
              refine q_iload_n rfl rfl rfl ?_
              refine q_iload_n rfl rfl rfl ?_
              refine q_iast rfl rfl (by decide) (FW_75 S hW) (by decide) ?_
              refine q_aload_n rfl rfl rfl ?_
              refine q_iload_n rfl rfl rfl ?_
              refine q_cV1v rfl rfl (Or.inl rfl) rfl rfl rfl (by decide) (FW_46 S hW) ⟨rfl, rfl⟩ rfl (fun K' hK' => l_clear (D := 3) (by decide) rfl (by decide) (FW_46 S hW) rfl (FW_79 S hW) hK') ?_
              refine q_iload_n rfl rfl rfl ?_
              refine q_iconst rfl rfl ?_
              refine q_icne rfl rfl (fun c236 => absurd c236 (by decide)) (fun c236 => ?_)
              refine q_iload_n rfl rfl rfl ?_
              refine q_iconst rfl rfl ?_
              refine q_icne rfl rfl (fun c237 => ?_) (fun c237 => absurd (by decide) c237)
              refine q_aload_n rfl rfl rfl ?_
              refine q_getf rfl rfl (by decide) (FW_46 S hW) rfl ?_
              refine q_iload_n rfl rfl rfl ?_
              refine q_iconst rfl rfl ?_
              refine q_aload_n rfl rfl rfl ?_
              refine q_getf rfl rfl (by decide) (FW_46 S hW) rfl ?_
              refine q_iadd rfl rfl (q_tn (z := 5) rfl ?_)
              refine q_iast rfl rfl (by decide) (FW_78 S hW) (by decide) ?_
              refine q_iconst rfl rfl ?_
              refine q_ist6 rfl rfl rfl rfl ?_
              refine q_iload rfl rfl rfl ?_
              refine q_iconst rfl rfl ?_
              refine q_icge rfl rfl (fun c238 => absurd c238 (by decide)) (fun c238 => ?_)
              refine q_aload_n rfl rfl rfl ?_
              refine q_getf rfl rfl (by decide) (FW_46 S hW) rfl ?_
              refine q_bipush rfl rfl ?_
              refine q_iload_n rfl rfl rfl ?_
              refine q_imul rfl rfl (q_tn (z := 180) rfl ?_)
              refine q_iload rfl rfl rfl ?_
              refine q_iadd rfl rfl (q_tn (z := 180) rfl ?_)
              refine q_aload_n rfl rfl rfl ?_
              refine q_getf rfl rfl (by decide) (FW_46 S hW) rfl ?_
              refine q_bipush rfl rfl ?_
              refine q_iload rfl rfl rfl ?_
              refine q_iadd rfl rfl (q_tn (z := 12) rfl ?_)
              refine q_iald rfl rfl (by decide) (FW_54 S hW) (by decide) (q_tn (z := 0) rfl ?_)
              refine q_i2l rfl rfl (q_tnl (z := 0) rfl ?_)
              refine q_last rfl rfl (by decide) (FW_79 S hW) (by decide) ?_
              refine q_icc6 (z := 1) rfl rfl rfl rfl rfl ?_
              refine q_goto rfl ?_
              refine q_iload rfl rfl rfl ?_
              refine q_iconst rfl rfl ?_
              refine q_icge rfl rfl (fun c239 => absurd c239 (by decide)) (fun c239 => ?_)
              refine q_aload_n rfl rfl rfl ?_
              refine q_getf rfl rfl (by decide) (FW_46 S hW) rfl ?_
              refine q_bipush rfl rfl ?_
              refine q_iload_n rfl rfl rfl ?_
              refine q_imul rfl rfl (q_tn (z := 180) rfl ?_)
              refine q_iload rfl rfl rfl ?_
              refine q_iadd rfl rfl (q_tn (z := 181) rfl ?_)
              refine q_aload_n rfl rfl rfl ?_
              refine q_getf rfl rfl (by decide) (FW_46 S hW) rfl ?_
              refine q_bipush rfl rfl ?_
              refine q_iload rfl rfl rfl ?_
              refine q_iadd rfl rfl (q_tn (z := 13) rfl ?_)
              refine q_iald rfl rfl (by decide) (FW_54 S hW) (by decide) (q_tn (z := 0) rfl ?_)
              refine q_i2l rfl rfl (q_tnl (z := 0) rfl ?_)
              refine q_last rfl rfl (by decide) rfl (by decide) ?_
              refine q_icc6 (z := 2) rfl rfl rfl rfl rfl ?_
              refine q_goto rfl ?_
              refine q_iload rfl rfl rfl ?_
              refine q_iconst rfl rfl ?_
              refine q_icge rfl rfl (fun c240 => absurd c240 (by decide)) (fun c240 => ?_)
              refine q_aload_n rfl rfl rfl ?_
              refine q_getf rfl rfl (by decide) (FW_46 S hW) rfl ?_
              refine q_bipush rfl rfl ?_
              refine q_iload_n rfl rfl rfl ?_
              refine q_imul rfl rfl (q_tn (z := 180) rfl ?_)
              refine q_iload rfl rfl rfl ?_
              refine q_iadd rfl rfl (q_tn (z := 182) rfl ?_)
              refine q_aload_n rfl rfl rfl ?_
              refine q_getf rfl rfl (by decide) (FW_46 S hW) rfl ?_
              refine q_bipush rfl rfl ?_
              refine q_iload rfl rfl rfl ?_
              refine q_iadd rfl rfl (q_tn (z := 14) rfl ?_)
              refine q_iald rfl rfl (by decide) (FW_54 S hW) (by decide) (q_tn (z := 0) rfl ?_)
              refine q_i2l rfl rfl (q_tnl (z := 0) rfl ?_)
              refine q_last rfl rfl (by decide) rfl (by decide) ?_
              refine q_icc6 (z := 3) rfl rfl rfl rfl rfl ?_
              refine q_goto rfl ?_
              refine q_iload rfl rfl rfl ?_
              refine q_iconst rfl rfl ?_
              refine q_icge rfl rfl (fun c241 => absurd c241 (by decide)) (fun c241 => ?_)
              refine q_aload_n rfl rfl rfl ?_
              refine q_getf rfl rfl (by decide) (FW_46 S hW) rfl ?_
              refine q_bipush rfl rfl ?_
              refine q_iload_n rfl rfl rfl ?_
              refine q_imul rfl rfl (q_tn (z := 180) rfl ?_)
              refine q_iload rfl rfl rfl ?_
              refine q_iadd rfl rfl (q_tn (z := 183) rfl ?_)
              refine q_aload_n rfl rfl rfl ?_
              refine q_getf rfl rfl (by decide) (FW_46 S hW) rfl ?_
              refine q_bipush rfl rfl ?_
              refine q_iload rfl rfl rfl ?_
              refine q_iadd rfl rfl (q_tn (z := 15) rfl ?_)
              refine q_iald rfl rfl (by decide) (FW_54 S hW) (by decide) (q_tn (z := 0) rfl ?_)
              refine q_i2l rfl rfl (q_tnl (z := 0) rfl ?_)
              refine q_last rfl rfl (by decide) rfl (by decide) ?_
              refine q_icc6 (z := 4) rfl rfl rfl rfl rfl ?_
              refine q_goto rfl ?_
              refine q_iload rfl rfl rfl ?_
              refine q_iconst rfl rfl ?_
              refine q_icge rfl rfl (fun c242 => ?_) (fun c242 => absurd (by decide) c242)
              refine q_iconst rfl rfl ?_
              refine q_ist6 rfl rfl rfl rfl ?_
              refine q_iload rfl rfl rfl ?_
              refine q_aload_n rfl rfl rfl ?_
              refine q_getf rfl rfl (by decide) (FW_46 S hW) rfl ?_
              refine q_icge rfl rfl (fun c243 => absurd c243 (by decide)) (fun c243 => ?_)
              refine q_aload_n rfl rfl rfl ?_
              refine q_getf rfl rfl (by decide) (FW_46 S hW) rfl ?_
              refine q_bipush rfl rfl ?_
              refine q_iload_n rfl rfl rfl ?_
              refine q_imul rfl rfl (q_tn (z := 180) rfl ?_)
              refine q_iconst rfl rfl ?_
              refine q_iadd rfl rfl (q_tn (z := 184) rfl ?_)
              refine q_iload rfl rfl rfl ?_
              refine q_iadd rfl rfl (q_tn (z := 184) rfl ?_)
              refine q_aload_n rfl rfl rfl ?_
              refine q_getf rfl rfl (by decide) (FW_46 S hW) rfl ?_
              refine q_iconst rfl rfl ?_
              refine q_iload rfl rfl rfl ?_
              refine q_imul rfl rfl (q_tn (z := 0) rfl ?_)
              refine q_iconst rfl rfl ?_
              refine q_iadd rfl rfl (q_tn (z := 1) rfl ?_)
              refine q_iald rfl rfl (by decide) (FW_54 S hW) (by decide) (q_tn (z := 0) rfl ?_)
              refine q_i2l rfl rfl (q_tnl (z := 0) rfl ?_)
              refine q_last rfl rfl (by decide) rfl (by decide) ?_
              refine q_icc6 (z := 1) rfl rfl rfl rfl rfl ?_
              refine q_goto rfl ?_
              refine q_iload rfl rfl rfl ?_
              refine q_aload_n rfl rfl rfl ?_
              refine q_getf rfl rfl (by decide) (FW_46 S hW) rfl ?_
              refine q_icge rfl rfl (fun c244 => ?_) (fun c244 => absurd (by decide) c244)
              refine q_goto rfl ?_
              refine q_iconst rfl rfl ?_
              refine q_iret rfl rfl trivial ?_
              refine ⟨_, rfl, ?_⟩
              refine q_iceq rfl rfl (fun c245 => ?_) (fun c245 => absurd (by decide) c245)
              refine q_icc4 (z := 6) rfl rfl rfl rfl rfl ?_
              refine q_goto rfl ?_
              refine q_iload rfl rfl rfl ?_
              refine q_aload_nF rfl rfl rfl ?_
              refine q_alenX (x := 6) rfl rfl rfl ?_
              refine q_bipush rfl rfl ?_
              refine q_isub rfl rfl (q_tn (z := 0) rfl ?_)
              refine q_icgt rfl rfl (fun c246 => ?_) (fun c246 => absurd (by decide) c246)
              refine q_iconst rfl rfl ?_
              refine q_iret rfl rfl rfl ?_
              exact hK _ _
            · refine q_aast rfl rfl (by decide) (by decide) (FW_43 S hW) rfl rfl (by decide) ?_
              refine q_iconst rfl rfl ?_
              refine q_iret rfl rfl trivial ?_
              refine ⟨_, rfl, ?_⟩
              refine q_aload_n rfl rfl rfl ?_
              refine q_aload_nF rfl rfl rfl ?_
              refine q_iload rfl rfl rfl ?_
              refine q_iconst rfl rfl ?_
              refine q_iadd rfl rfl (q_tn (z := 1) rfl ?_)
              refine q_ialdX (x := 4) rfl rfl rfl hx1 ?_
              refine q_aload_nF rfl rfl rfl ?_
              refine q_iload rfl rfl rfl ?_
              refine q_iconst rfl rfl ?_
              refine q_iadd rfl rfl (q_tn (z := 2) rfl ?_)
              refine q_ialdX (x := 3) rfl rfl rfl hx2 ?_
              refine q_aload_nF rfl rfl rfl ?_
              refine q_iload rfl rfl rfl ?_
              refine q_iconst rfl rfl ?_
              refine q_iadd rfl rfl (q_tn (z := 3) rfl ?_)
              refine q_ialdX (x := x3) rfl rfl rfl hx3 ?_
              refine q_aload_nF rfl rfl rfl ?_
              refine q_iload rfl rfl rfl ?_
              refine q_iconst rfl rfl ?_
              refine q_iadd rfl rfl (q_tn (z := 4) rfl ?_)
              refine q_ialdX (x := x4) rfl rfl rfl hx4 ?_
              refine q_nV4 rfl rfl (Or.inl rfl) rfl rfl rfl (by decide) (FW_46 S hW) ⟨rfl, rfl⟩ rfl ?_
              change PQ _ _ _ mm_X12_keep 0 [.ref 46, .int 4, .int 3, .int x3, .int x4, pm_un, pm_un] [] _ _ 0 0 _
              refine q_aload_n rfl rfl rfl ?_
              refine q_iload_n rfl rfl rfl ?_
              refine q_nV1 rfl rfl (Or.inl rfl) rfl rfl rfl (by decide) (FW_46 S hW) ⟨rfl, rfl⟩ rfl ?_
              change PQ _ _ _ mm_X12_isShelf 0 [.ref 46, .int 4] [] _ _ 0 0 _
              refine q_aload_n rfl rfl rfl ?_
              refine q_iload_n rfl rfl rfl ?_
              refine q_iconst rfl rfl ?_
              refine q_bipush rfl rfl ?_
              refine q_nV3 rfl rfl (Or.inl rfl) rfl rfl rfl (by decide) (FW_46 S hW) ⟨rfl, rfl⟩ rfl ?_
              change PQ _ _ _ mm_X12_in 0 [.ref 46, .int 4, .int 0, .int 7] [] _ _ 0 0 _
              refine q_iload_n rfl rfl rfl ?_
              refine q_iload_n rfl rfl rfl ?_
              refine q_iclt rfl rfl (fun c247 => absurd c247 (by decide)) (fun c247 => ?_)
              refine q_iload_n rfl rfl rfl ?_
              refine q_iload_n rfl rfl rfl ?_
              refine q_icgt rfl rfl (fun c248 => absurd c248 (by decide)) (fun c248 => ?_)
              refine q_iconst rfl rfl ?_
              refine q_goto rfl ?_
              refine q_iret rfl rfl rfl ?_
              refine ⟨_, rfl, ?_⟩
              refine q_iret rfl rfl rfl ?_
              refine ⟨_, rfl, ?_⟩
              refine q_ifeq rfl rfl (fun c249 => absurd c249 (by decide)) (fun c249 => ?_)
              refine q_iload_n rfl rfl rfl ?_
              refine q_ifeq rfl rfl (fun c250 => absurd c250 (by decide)) (fun c250 => ?_)
              refine q_iload_n rfl rfl rfl ?_
              refine q_iconst rfl rfl ?_
              refine q_iceq rfl rfl (fun c251 => ?_) (fun c251 => absurd (by decide) c251)
              refine q_iconst rfl rfl ?_
              refine q_goto rfl ?_
              refine q_ist5 rfl rfl rfl rfl ?_
              refine q_iload rfl rfl rfl ?_
              refine q_ifne rfl rfl (fun c252 => absurd c252 (by decide)) (fun c252 => ?_)
              refine q_aload_n rfl rfl rfl ?_
              refine q_getf rfl rfl (by decide) (FW_46 S hW) rfl ?_
              refine q_iload_n rfl rfl rfl ?_
              refine q_iload_n rfl rfl rfl ?_
              refine q_iast rfl rfl (by decide) (FW_75 S hW) (by decide) ?_
              refine q_aload_n rfl rfl rfl ?_
              refine q_iload_n rfl rfl rfl ?_
              refine q_cV1v rfl rfl (Or.inl rfl) rfl rfl rfl (by decide) (FW_46 S hW) ⟨rfl, rfl⟩ rfl (fun K' hK' => l_clear (D := 4) (by decide) rfl (by decide) (FW_46 S hW) rfl (FW_79 S hW) hK') ?_
              refine q_iload_n rfl rfl rfl ?_
              refine q_iconst rfl rfl ?_
              refine q_icne rfl rfl (fun c253 => absurd c253 (by decide)) (fun c253 => ?_)
              refine q_iload_n rfl rfl rfl ?_
              refine q_iconst rfl rfl ?_
              refine q_icne rfl rfl (fun c254 => ?_) (fun c254 => absurd (by decide) c254)
              refine q_aload_n rfl rfl rfl ?_
              refine q_getf rfl rfl (by decide) (FW_46 S hW) rfl ?_
              refine q_iload_n rfl rfl rfl ?_
              refine q_iconst rfl rfl ?_
              refine q_aload_n rfl rfl rfl ?_
              refine q_getf rfl rfl (by decide) (FW_46 S hW) rfl ?_
              refine q_iadd rfl rfl (q_tn (z := 5) rfl ?_)
              refine q_iast rfl rfl (by decide) (FW_78 S hW) (by decide) ?_
              refine q_iconst rfl rfl ?_
              refine q_ist6 rfl rfl rfl rfl ?_
              refine q_iload rfl rfl rfl ?_
              refine q_iconst rfl rfl ?_
              refine q_icge rfl rfl (fun c255 => absurd c255 (by decide)) (fun c255 => ?_)
              refine q_aload_n rfl rfl rfl ?_
              refine q_getf rfl rfl (by decide) (FW_46 S hW) rfl ?_
              refine q_bipush rfl rfl ?_
              refine q_iload_n rfl rfl rfl ?_
              refine q_imul rfl rfl (q_tn (z := 240) rfl ?_)
              refine q_iload rfl rfl rfl ?_
              refine q_iadd rfl rfl (q_tn (z := 240) rfl ?_)
              refine q_aload_n rfl rfl rfl ?_
              refine q_getf rfl rfl (by decide) (FW_46 S hW) rfl ?_
              refine q_bipush rfl rfl ?_
              refine q_iload rfl rfl rfl ?_
              refine q_iadd rfl rfl (q_tn (z := 12) rfl ?_)
              refine q_iald rfl rfl (by decide) (FW_54 S hW) (by decide) (q_tn (z := 0) rfl ?_)
              refine q_i2l rfl rfl (q_tnl (z := 0) rfl ?_)
              refine q_last rfl rfl (by decide) (FW_79 S hW) (by decide) ?_
              refine q_icc6 (z := 1) rfl rfl rfl rfl rfl ?_
              refine q_goto rfl ?_
              refine q_iload rfl rfl rfl ?_
              refine q_iconst rfl rfl ?_
              refine q_icge rfl rfl (fun c256 => absurd c256 (by decide)) (fun c256 => ?_)
              refine q_aload_n rfl rfl rfl ?_
              refine q_getf rfl rfl (by decide) (FW_46 S hW) rfl ?_
              refine q_bipush rfl rfl ?_
              refine q_iload_n rfl rfl rfl ?_
              refine q_imul rfl rfl (q_tn (z := 240) rfl ?_)
              refine q_iload rfl rfl rfl ?_
              refine q_iadd rfl rfl (q_tn (z := 241) rfl ?_)
              refine q_aload_n rfl rfl rfl ?_
              refine q_getf rfl rfl (by decide) (FW_46 S hW) rfl ?_
              refine q_bipush rfl rfl ?_
              refine q_iload rfl rfl rfl ?_
              refine q_iadd rfl rfl (q_tn (z := 13) rfl ?_)
              refine q_iald rfl rfl (by decide) (FW_54 S hW) (by decide) (q_tn (z := 0) rfl ?_)
              refine q_i2l rfl rfl (q_tnl (z := 0) rfl ?_)
              refine q_last rfl rfl (by decide) rfl (by decide) ?_
              refine q_icc6 (z := 2) rfl rfl rfl rfl rfl ?_
              refine q_goto rfl ?_
              refine q_iload rfl rfl rfl ?_
              refine q_iconst rfl rfl ?_
              refine q_icge rfl rfl (fun c257 => absurd c257 (by decide)) (fun c257 => ?_)
              refine q_aload_n rfl rfl rfl ?_
              refine q_getf rfl rfl (by decide) (FW_46 S hW) rfl ?_
              refine q_bipush rfl rfl ?_
              refine q_iload_n rfl rfl rfl ?_
              refine q_imul rfl rfl (q_tn (z := 240) rfl ?_)
              refine q_iload rfl rfl rfl ?_
              refine q_iadd rfl rfl (q_tn (z := 242) rfl ?_)
              refine q_aload_n rfl rfl rfl ?_
              refine q_getf rfl rfl (by decide) (FW_46 S hW) rfl ?_
              refine q_bipush rfl rfl ?_
              refine q_iload rfl rfl rfl ?_
              refine q_iadd rfl rfl (q_tn (z := 14) rfl ?_)
              refine q_iald rfl rfl (by decide) (FW_54 S hW) (by decide) (q_tn (z := 0) rfl ?_)
              refine q_i2l rfl rfl (q_tnl (z := 0) rfl ?_)
              refine q_last rfl rfl (by decide) rfl (by decide) ?_
              refine q_icc6 (z := 3) rfl rfl rfl rfl rfl ?_
              refine q_goto rfl ?_
              refine q_iload rfl rfl rfl ?_
              refine q_iconst rfl rfl ?_
              refine q_icge rfl rfl (fun c258 => absurd c258 (by decide)) (fun c258 => ?_)
              refine q_aload_n rfl rfl rfl ?_
              refine q_getf rfl rfl (by decide) (FW_46 S hW) rfl ?_
              refine q_bipush rfl rfl ?_
              refine q_iload_n rfl rfl rfl ?_
              refine q_imul rfl rfl (q_tn (z := 240) rfl ?_)
              refine q_iload rfl rfl rfl ?_
              refine q_iadd rfl rfl (q_tn (z := 243) rfl ?_)
              refine q_aload_n rfl rfl rfl ?_
              refine q_getf rfl rfl (by decide) (FW_46 S hW) rfl ?_
              refine q_bipush rfl rfl ?_
              refine q_iload rfl rfl rfl ?_
              refine q_iadd rfl rfl (q_tn (z := 15) rfl ?_)
              refine q_iald rfl rfl (by decide) (FW_54 S hW) (by decide) (q_tn (z := 0) rfl ?_)
              refine q_i2l rfl rfl (q_tnl (z := 0) rfl ?_)
              refine q_last rfl rfl (by decide) rfl (by decide) ?_
              refine q_icc6 (z := 4) rfl rfl rfl rfl rfl ?_
              refine q_goto rfl ?_
              refine q_iload rfl rfl rfl ?_
              refine q_iconst rfl rfl ?_
              refine q_icge rfl rfl (fun c259 => ?_) (fun c259 => absurd (by decide) c259)
              refine q_iconst rfl rfl ?_
              refine q_ist6 rfl rfl rfl rfl ?_
              refine q_iload rfl rfl rfl ?_
              refine q_aload_n rfl rfl rfl ?_
              refine q_getf rfl rfl (by decide) (FW_46 S hW) rfl ?_
              refine q_icge rfl rfl (fun c260 => absurd c260 (by decide)) (fun c260 => ?_)
              refine q_aload_n rfl rfl rfl ?_
              refine q_getf rfl rfl (by decide) (FW_46 S hW) rfl ?_
              refine q_bipush rfl rfl ?_
              refine q_iload_n rfl rfl rfl ?_
              refine q_imul rfl rfl (q_tn (z := 240) rfl ?_)
              refine q_iconst rfl rfl ?_
              refine q_iadd rfl rfl (q_tn (z := 244) rfl ?_)
              refine q_iload rfl rfl rfl ?_
              refine q_iadd rfl rfl (q_tn (z := 244) rfl ?_)
              refine q_aload_n rfl rfl rfl ?_
              refine q_getf rfl rfl (by decide) (FW_46 S hW) rfl ?_
              refine q_iconst rfl rfl ?_
              refine q_iload rfl rfl rfl ?_
              refine q_imul rfl rfl (q_tn (z := 0) rfl ?_)
              refine q_iconst rfl rfl ?_
              refine q_iadd rfl rfl (q_tn (z := 1) rfl ?_)
              refine q_iald rfl rfl (by decide) (FW_54 S hW) (by decide) (q_tn (z := 0) rfl ?_)
              refine q_i2l rfl rfl (q_tnl (z := 0) rfl ?_)
              refine q_last rfl rfl (by decide) rfl (by decide) ?_
              refine q_icc6 (z := 1) rfl rfl rfl rfl rfl ?_
              refine q_goto rfl ?_
              refine q_iload rfl rfl rfl ?_
              refine q_aload_n rfl rfl rfl ?_
              refine q_getf rfl rfl (by decide) (FW_46 S hW) rfl ?_
              refine q_icge rfl rfl (fun c261 => ?_) (fun c261 => absurd (by decide) c261)
              refine q_goto rfl ?_
              refine q_iconst rfl rfl ?_
              refine q_iret rfl rfl trivial ?_
              refine ⟨_, rfl, ?_⟩
              refine q_iceq rfl rfl (fun c262 => ?_) (fun c262 => absurd (by decide) c262)
              refine q_icc4 (z := 6) rfl rfl rfl rfl rfl ?_
              refine q_goto rfl ?_
              refine q_iload rfl rfl rfl ?_
              refine q_aload_nF rfl rfl rfl ?_
              refine q_alenX (x := 6) rfl rfl rfl ?_
              refine q_bipush rfl rfl ?_
              refine q_isub rfl rfl (q_tn (z := 0) rfl ?_)
              refine q_icgt rfl rfl (fun c263 => ?_) (fun c263 => absurd (by decide) c263)
              refine q_iconst rfl rfl ?_
              refine q_iret rfl rfl rfl ?_
              exact hK _ _
            · refine q_aast rfl rfl (by decide) (by decide) (FW_43 S hW) rfl rfl (by decide) ?_
              refine q_iconst rfl rfl ?_
              refine q_iret rfl rfl trivial ?_
              refine ⟨_, rfl, ?_⟩
              refine q_aload_n rfl rfl rfl ?_
              refine q_aload_nF rfl rfl rfl ?_
              refine q_iload rfl rfl rfl ?_
              refine q_iconst rfl rfl ?_
              refine q_iadd rfl rfl (q_tn (z := 1) rfl ?_)
              refine q_ialdX (x := 5) rfl rfl rfl hx1 ?_
              refine q_aload_nF rfl rfl rfl ?_
              refine q_iload rfl rfl rfl ?_
              refine q_iconst rfl rfl ?_
              refine q_iadd rfl rfl (q_tn (z := 2) rfl ?_)
              refine q_ialdX (x := 3) rfl rfl rfl hx2 ?_
              refine q_aload_nF rfl rfl rfl ?_
              refine q_iload rfl rfl rfl ?_
              refine q_iconst rfl rfl ?_
              refine q_iadd rfl rfl (q_tn (z := 3) rfl ?_)
              refine q_ialdX (x := x3) rfl rfl rfl hx3 ?_
              refine q_aload_nF rfl rfl rfl ?_
              refine q_iload rfl rfl rfl ?_
              refine q_iconst rfl rfl ?_
              refine q_iadd rfl rfl (q_tn (z := 4) rfl ?_)
              refine q_ialdX (x := x4) rfl rfl rfl hx4 ?_
              refine q_nV4 rfl rfl (Or.inl rfl) rfl rfl rfl (by decide) (FW_46 S hW) ⟨rfl, rfl⟩ rfl ?_
              change PQ _ _ _ mm_X12_keep 0 [.ref 46, .int 5, .int 3, .int x3, .int x4, pm_un, pm_un] [] _ _ 0 0 _
              refine q_aload_n rfl rfl rfl ?_
              refine q_iload_n rfl rfl rfl ?_
              refine q_nV1 rfl rfl (Or.inl rfl) rfl rfl rfl (by decide) (FW_46 S hW) ⟨rfl, rfl⟩ rfl ?_
              change PQ _ _ _ mm_X12_isShelf 0 [.ref 46, .int 5] [] _ _ 0 0 _
              refine q_aload_n rfl rfl rfl ?_
              refine q_iload_n rfl rfl rfl ?_
              refine q_iconst rfl rfl ?_
              refine q_bipush rfl rfl ?_
              refine q_nV3 rfl rfl (Or.inl rfl) rfl rfl rfl (by decide) (FW_46 S hW) ⟨rfl, rfl⟩ rfl ?_
              change PQ _ _ _ mm_X12_in 0 [.ref 46, .int 5, .int 0, .int 7] [] _ _ 0 0 _
              refine q_iload_n rfl rfl rfl ?_
              refine q_iload_n rfl rfl rfl ?_
              refine q_iclt rfl rfl (fun c264 => absurd c264 (by decide)) (fun c264 => ?_)
              refine q_iload_n rfl rfl rfl ?_
              refine q_iload_n rfl rfl rfl ?_
              refine q_icgt rfl rfl (fun c265 => absurd c265 (by decide)) (fun c265 => ?_)
              refine q_iconst rfl rfl ?_
              refine q_goto rfl ?_
              refine q_iret rfl rfl rfl ?_
              refine ⟨_, rfl, ?_⟩
              refine q_iret rfl rfl rfl ?_
              refine ⟨_, rfl, ?_⟩
              refine q_ifeq rfl rfl (fun c266 => absurd c266 (by decide)) (fun c266 => ?_)
              refine q_iload_n rfl rfl rfl ?_
              refine q_ifeq rfl rfl (fun c267 => absurd c267 (by decide)) (fun c267 => ?_)
              refine q_iload_n rfl rfl rfl ?_
              refine q_iconst rfl rfl ?_
              refine q_iceq rfl rfl (fun c268 => ?_) (fun c268 => absurd (by decide) c268)
              refine q_iconst rfl rfl ?_
              refine q_goto rfl ?_
              refine q_ist5 rfl rfl rfl rfl ?_
              refine q_iload rfl rfl rfl ?_
              refine q_ifne rfl rfl (fun c269 => absurd c269 (by decide)) (fun c269 => ?_)
              refine q_aload_n rfl rfl rfl ?_
              refine q_getf rfl rfl (by decide) (FW_46 S hW) rfl ?_
              refine q_iload_n rfl rfl rfl ?_
              refine q_iload_n rfl rfl rfl ?_
              refine q_iast rfl rfl (by decide) (FW_75 S hW) (by decide) ?_
              refine q_aload_n rfl rfl rfl ?_
              refine q_iload_n rfl rfl rfl ?_
              refine q_cV1v rfl rfl (Or.inl rfl) rfl rfl rfl (by decide) (FW_46 S hW) ⟨rfl, rfl⟩ rfl (fun K' hK' => l_clear (D := 5) (by decide) rfl (by decide) (FW_46 S hW) rfl (FW_79 S hW) hK') ?_
              refine q_iload_n rfl rfl rfl ?_
              refine q_iconst rfl rfl ?_
              refine q_icne rfl rfl (fun c270 => absurd c270 (by decide)) (fun c270 => ?_)
              refine q_iload_n rfl rfl rfl ?_
              refine q_iconst rfl rfl ?_
              refine q_icne rfl rfl (fun c271 => ?_) (fun c271 => absurd (by decide) c271)
              refine q_aload_n rfl rfl rfl ?_
              refine q_getf rfl rfl (by decide) (FW_46 S hW) rfl ?_
              refine q_iload_n rfl rfl rfl ?_
              refine q_iconst rfl rfl ?_
              refine q_aload_n rfl rfl rfl ?_
              refine q_getf rfl rfl (by decide) (FW_46 S hW) rfl ?_
              refine q_iadd rfl rfl (q_tn (z := 5) rfl ?_)
              refine q_iast rfl rfl (by decide) (FW_78 S hW) (by decide) ?_
              refine q_iconst rfl rfl ?_
              refine q_ist6 rfl rfl rfl rfl ?_
              refine q_iload rfl rfl rfl ?_
              refine q_iconst rfl rfl ?_
              refine q_icge rfl rfl (fun c272 => absurd c272 (by decide)) (fun c272 => ?_)
              refine q_aload_n rfl rfl rfl ?_
              refine q_getf rfl rfl (by decide) (FW_46 S hW) rfl ?_
              refine q_bipush rfl rfl ?_
              refine q_iload_n rfl rfl rfl ?_
              refine q_imul rfl rfl (q_tn (z := 300) rfl ?_)
              refine q_iload rfl rfl rfl ?_
              refine q_iadd rfl rfl (q_tn (z := 300) rfl ?_)
              refine q_aload_n rfl rfl rfl ?_
              refine q_getf rfl rfl (by decide) (FW_46 S hW) rfl ?_
              refine q_bipush rfl rfl ?_
              refine q_iload rfl rfl rfl ?_
              refine q_iadd rfl rfl (q_tn (z := 12) rfl ?_)
              refine q_iald rfl rfl (by decide) (FW_54 S hW) (by decide) (q_tn (z := 0) rfl ?_)
              refine q_i2l rfl rfl (q_tnl (z := 0) rfl ?_)
              refine q_last rfl rfl (by decide) (FW_79 S hW) (by decide) ?_
              refine q_icc6 (z := 1) rfl rfl rfl rfl rfl ?_
              refine q_goto rfl ?_
              refine q_iload rfl rfl rfl ?_
              refine q_iconst rfl rfl ?_
              refine q_icge rfl rfl (fun c273 => absurd c273 (by decide)) (fun c273 => ?_)
              refine q_aload_n rfl rfl rfl ?_
              refine q_getf rfl rfl (by decide) (FW_46 S hW) rfl ?_
              refine q_bipush rfl rfl ?_
              refine q_iload_n rfl rfl rfl ?_
              refine q_imul rfl rfl (q_tn (z := 300) rfl ?_)
              refine q_iload rfl rfl rfl ?_
              refine q_iadd rfl rfl (q_tn (z := 301) rfl ?_)
              refine q_aload_n rfl rfl rfl ?_
              refine q_getf rfl rfl (by decide) (FW_46 S hW) rfl ?_
              refine q_bipush rfl rfl ?_
              refine q_iload rfl rfl rfl ?_
              refine q_iadd rfl rfl (q_tn (z := 13) rfl ?_)
              refine q_iald rfl rfl (by decide) (FW_54 S hW) (by decide) (q_tn (z := 0) rfl ?_)
              refine q_i2l rfl rfl (q_tnl (z := 0) rfl ?_)
              refine q_last rfl rfl (by decide) rfl (by decide) ?_
              refine q_icc6 (z := 2) rfl rfl rfl rfl rfl ?_
              refine q_goto rfl ?_
              refine q_iload rfl rfl rfl ?_
              refine q_iconst rfl rfl ?_
              refine q_icge rfl rfl (fun c274 => absurd c274 (by decide)) (fun c274 => ?_)
              refine q_aload_n rfl rfl rfl ?_
              refine q_getf rfl rfl (by decide) (FW_46 S hW) rfl ?_
              refine q_bipush rfl rfl ?_
              refine q_iload_n rfl rfl rfl ?_
              refine q_imul rfl rfl (q_tn (z := 300) rfl ?_)
              refine q_iload rfl rfl rfl ?_
              refine q_iadd rfl rfl (q_tn (z := 302) rfl ?_)
              refine q_aload_n rfl rfl rfl ?_
              refine q_getf rfl rfl (by decide) (FW_46 S hW) rfl ?_
              refine q_bipush rfl rfl ?_
              refine q_iload rfl rfl rfl ?_
              refine q_iadd rfl rfl (q_tn (z := 14) rfl ?_)
              refine q_iald rfl rfl (by decide) (FW_54 S hW) (by decide) (q_tn (z := 0) rfl ?_)
              refine q_i2l rfl rfl (q_tnl (z := 0) rfl ?_)
              refine q_last rfl rfl (by decide) rfl (by decide) ?_
              refine q_icc6 (z := 3) rfl rfl rfl rfl rfl ?_
              refine q_goto rfl ?_
              refine q_iload rfl rfl rfl ?_
              refine q_iconst rfl rfl ?_
              refine q_icge rfl rfl (fun c275 => absurd c275 (by decide)) (fun c275 => ?_)
              refine q_aload_n rfl rfl rfl ?_
              refine q_getf rfl rfl (by decide) (FW_46 S hW) rfl ?_
              refine q_bipush rfl rfl ?_
              refine q_iload_n rfl rfl rfl ?_
              refine q_imul rfl rfl (q_tn (z := 300) rfl ?_)
              refine q_iload rfl rfl rfl ?_
              refine q_iadd rfl rfl (q_tn (z := 303) rfl ?_)
              refine q_aload_n rfl rfl rfl ?_
              refine q_getf rfl rfl (by decide) (FW_46 S hW) rfl ?_
              refine q_bipush rfl rfl ?_
              refine q_iload rfl rfl rfl ?_
              refine q_iadd rfl rfl (q_tn (z := 15) rfl ?_)
              refine q_iald rfl rfl (by decide) (FW_54 S hW) (by decide) (q_tn (z := 0) rfl ?_)
              refine q_i2l rfl rfl (q_tnl (z := 0) rfl ?_)
              refine q_last rfl rfl (by decide) rfl (by decide) ?_
              refine q_icc6 (z := 4) rfl rfl rfl rfl rfl ?_
              refine q_goto rfl ?_
              refine q_iload rfl rfl rfl ?_
              refine q_iconst rfl rfl ?_
              refine q_icge rfl rfl (fun c276 => ?_) (fun c276 => absurd (by decide) c276)
              refine q_iconst rfl rfl ?_
              refine q_ist6 rfl rfl rfl rfl ?_
              refine q_iload rfl rfl rfl ?_
              refine q_aload_n rfl rfl rfl ?_
              refine q_getf rfl rfl (by decide) (FW_46 S hW) rfl ?_
              refine q_icge rfl rfl (fun c277 => absurd c277 (by decide)) (fun c277 => ?_)
              refine q_aload_n rfl rfl rfl ?_
              refine q_getf rfl rfl (by decide) (FW_46 S hW) rfl ?_
              refine q_bipush rfl rfl ?_
              refine q_iload_n rfl rfl rfl ?_
              refine q_imul rfl rfl (q_tn (z := 300) rfl ?_)
              refine q_iconst rfl rfl ?_
              refine q_iadd rfl rfl (q_tn (z := 304) rfl ?_)
              refine q_iload rfl rfl rfl ?_
              refine q_iadd rfl rfl (q_tn (z := 304) rfl ?_)
              refine q_aload_n rfl rfl rfl ?_
              refine q_getf rfl rfl (by decide) (FW_46 S hW) rfl ?_
              refine q_iconst rfl rfl ?_
              refine q_iload rfl rfl rfl ?_
              refine q_imul rfl rfl (q_tn (z := 0) rfl ?_)
              refine q_iconst rfl rfl ?_
              refine q_iadd rfl rfl (q_tn (z := 1) rfl ?_)
              refine q_iald rfl rfl (by decide) (FW_54 S hW) (by decide) (q_tn (z := 0) rfl ?_)
              refine q_i2l rfl rfl (q_tnl (z := 0) rfl ?_)
              refine q_last rfl rfl (by decide) rfl (by decide) ?_
              refine q_icc6 (z := 1) rfl rfl rfl rfl rfl ?_
              refine q_goto rfl ?_
              refine q_iload rfl rfl rfl ?_
              refine q_aload_n rfl rfl rfl ?_
              refine q_getf rfl rfl (by decide) (FW_46 S hW) rfl ?_
              refine q_icge rfl rfl (fun c278 => ?_) (fun c278 => absurd (by decide) c278)
              refine q_goto rfl ?_
              refine q_iconst rfl rfl ?_
              refine q_iret rfl rfl trivial ?_
              refine ⟨_, rfl, ?_⟩
              refine q_iceq rfl rfl (fun c279 => ?_) (fun c279 => absurd (by decide) c279)
              refine q_icc4 (z := 6) rfl rfl rfl rfl rfl ?_
              refine q_goto rfl ?_
              refine q_iload rfl rfl rfl ?_
              refine q_aload_nF rfl rfl rfl ?_
              refine q_alenX (x := 6) rfl rfl rfl ?_
              refine q_bipush rfl rfl ?_
              refine q_isub rfl rfl (q_tn (z := 0) rfl ?_)
              refine q_icgt rfl rfl (fun c280 => ?_) (fun c280 => absurd (by decide) c280)
              refine q_iconst rfl rfl ?_
              refine q_iret rfl rfl rfl ?_
              exact hK _ _
            · refine q_aast rfl rfl (by decide) (by decide) (FW_43 S hW) rfl rfl (by decide) ?_
              refine q_iconst rfl rfl ?_
              refine q_iret rfl rfl trivial ?_
              refine ⟨_, rfl, ?_⟩
              refine q_aload_n rfl rfl rfl ?_
              refine q_aload_nF rfl rfl rfl ?_
              refine q_iload rfl rfl rfl ?_
              refine q_iconst rfl rfl ?_
              refine q_iadd rfl rfl (q_tn (z := 1) rfl ?_)
              refine q_ialdX (x := 6) rfl rfl rfl hx1 ?_
              refine q_aload_nF rfl rfl rfl ?_
              refine q_iload rfl rfl rfl ?_
              refine q_iconst rfl rfl ?_
              refine q_iadd rfl rfl (q_tn (z := 2) rfl ?_)
              refine q_ialdX (x := 3) rfl rfl rfl hx2 ?_
              refine q_aload_nF rfl rfl rfl ?_
              refine q_iload rfl rfl rfl ?_
              refine q_iconst rfl rfl ?_
              refine q_iadd rfl rfl (q_tn (z := 3) rfl ?_)
              refine q_ialdX (x := x3) rfl rfl rfl hx3 ?_
              refine q_aload_nF rfl rfl rfl ?_
              refine q_iload rfl rfl rfl ?_
              refine q_iconst rfl rfl ?_
              refine q_iadd rfl rfl (q_tn (z := 4) rfl ?_)
              refine q_ialdX (x := x4) rfl rfl rfl hx4 ?_
              refine q_nV4 rfl rfl (Or.inl rfl) rfl rfl rfl (by decide) (FW_46 S hW) ⟨rfl, rfl⟩ rfl ?_
              change PQ _ _ _ mm_X12_keep 0 [.ref 46, .int 6, .int 3, .int x3, .int x4, pm_un, pm_un] [] _ _ 0 0 _
              refine q_aload_n rfl rfl rfl ?_
              refine q_iload_n rfl rfl rfl ?_
              refine q_nV1 rfl rfl (Or.inl rfl) rfl rfl rfl (by decide) (FW_46 S hW) ⟨rfl, rfl⟩ rfl ?_
              change PQ _ _ _ mm_X12_isShelf 0 [.ref 46, .int 6] [] _ _ 0 0 _
              refine q_aload_n rfl rfl rfl ?_
              refine q_iload_n rfl rfl rfl ?_
              refine q_iconst rfl rfl ?_
              refine q_bipush rfl rfl ?_
              refine q_nV3 rfl rfl (Or.inl rfl) rfl rfl rfl (by decide) (FW_46 S hW) ⟨rfl, rfl⟩ rfl ?_
              change PQ _ _ _ mm_X12_in 0 [.ref 46, .int 6, .int 0, .int 7] [] _ _ 0 0 _
              refine q_iload_n rfl rfl rfl ?_
              refine q_iload_n rfl rfl rfl ?_
              refine q_iclt rfl rfl (fun c281 => absurd c281 (by decide)) (fun c281 => ?_)
              refine q_iload_n rfl rfl rfl ?_
              refine q_iload_n rfl rfl rfl ?_
              refine q_icgt rfl rfl (fun c282 => absurd c282 (by decide)) (fun c282 => ?_)
              refine q_iconst rfl rfl ?_
              refine q_goto rfl ?_
              refine q_iret rfl rfl rfl ?_
              refine ⟨_, rfl, ?_⟩
              refine q_iret rfl rfl rfl ?_
              refine ⟨_, rfl, ?_⟩
              refine q_ifeq rfl rfl (fun c283 => absurd c283 (by decide)) (fun c283 => ?_)
              refine q_iload_n rfl rfl rfl ?_
              refine q_ifeq rfl rfl (fun c284 => absurd c284 (by decide)) (fun c284 => ?_)
              refine q_iload_n rfl rfl rfl ?_
              refine q_iconst rfl rfl ?_
              refine q_iceq rfl rfl (fun c285 => ?_) (fun c285 => absurd (by decide) c285)
              refine q_iconst rfl rfl ?_
              refine q_goto rfl ?_
              refine q_ist5 rfl rfl rfl rfl ?_
              refine q_iload rfl rfl rfl ?_
              refine q_ifne rfl rfl (fun c286 => absurd c286 (by decide)) (fun c286 => ?_)
              refine q_aload_n rfl rfl rfl ?_
              refine q_getf rfl rfl (by decide) (FW_46 S hW) rfl ?_
              refine q_iload_n rfl rfl rfl ?_
              refine q_iload_n rfl rfl rfl ?_
              refine q_iast rfl rfl (by decide) (FW_75 S hW) (by decide) ?_
              refine q_aload_n rfl rfl rfl ?_
              refine q_iload_n rfl rfl rfl ?_
              refine q_cV1v rfl rfl (Or.inl rfl) rfl rfl rfl (by decide) (FW_46 S hW) ⟨rfl, rfl⟩ rfl (fun K' hK' => l_clear (D := 6) (by decide) rfl (by decide) (FW_46 S hW) rfl (FW_79 S hW) hK') ?_
              refine q_iload_n rfl rfl rfl ?_
              refine q_iconst rfl rfl ?_
              refine q_icne rfl rfl (fun c287 => absurd c287 (by decide)) (fun c287 => ?_)
              refine q_iload_n rfl rfl rfl ?_
              refine q_iconst rfl rfl ?_
              refine q_icne rfl rfl (fun c288 => ?_) (fun c288 => absurd (by decide) c288)
              refine q_aload_n rfl rfl rfl ?_
              refine q_getf rfl rfl (by decide) (FW_46 S hW) rfl ?_
              refine q_iload_n rfl rfl rfl ?_
              refine q_iconst rfl rfl ?_
              refine q_aload_n rfl rfl rfl ?_
              refine q_getf rfl rfl (by decide) (FW_46 S hW) rfl ?_
              refine q_iadd rfl rfl (q_tn (z := 5) rfl ?_)
              refine q_iast rfl rfl (by decide) (FW_78 S hW) (by decide) ?_
              refine q_iconst rfl rfl ?_
              refine q_ist6 rfl rfl rfl rfl ?_
              refine q_iload rfl rfl rfl ?_
              refine q_iconst rfl rfl ?_
              refine q_icge rfl rfl (fun c289 => absurd c289 (by decide)) (fun c289 => ?_)
              refine q_aload_n rfl rfl rfl ?_
              refine q_getf rfl rfl (by decide) (FW_46 S hW) rfl ?_
              refine q_bipush rfl rfl ?_
              refine q_iload_n rfl rfl rfl ?_
              refine q_imul rfl rfl (q_tn (z := 360) rfl ?_)
              refine q_iload rfl rfl rfl ?_
              refine q_iadd rfl rfl (q_tn (z := 360) rfl ?_)
              refine q_aload_n rfl rfl rfl ?_
              refine q_getf rfl rfl (by decide) (FW_46 S hW) rfl ?_
              refine q_bipush rfl rfl ?_
              refine q_iload rfl rfl rfl ?_
              refine q_iadd rfl rfl (q_tn (z := 12) rfl ?_)
              refine q_iald rfl rfl (by decide) (FW_54 S hW) (by decide) (q_tn (z := 0) rfl ?_)
              refine q_i2l rfl rfl (q_tnl (z := 0) rfl ?_)
              refine q_last rfl rfl (by decide) (FW_79 S hW) (by decide) ?_
              refine q_icc6 (z := 1) rfl rfl rfl rfl rfl ?_
              refine q_goto rfl ?_
              refine q_iload rfl rfl rfl ?_
              refine q_iconst rfl rfl ?_
              refine q_icge rfl rfl (fun c290 => absurd c290 (by decide)) (fun c290 => ?_)
              refine q_aload_n rfl rfl rfl ?_
              refine q_getf rfl rfl (by decide) (FW_46 S hW) rfl ?_
              refine q_bipush rfl rfl ?_
              refine q_iload_n rfl rfl rfl ?_
              refine q_imul rfl rfl (q_tn (z := 360) rfl ?_)
              refine q_iload rfl rfl rfl ?_
              refine q_iadd rfl rfl (q_tn (z := 361) rfl ?_)
              refine q_aload_n rfl rfl rfl ?_
              refine q_getf rfl rfl (by decide) (FW_46 S hW) rfl ?_
              refine q_bipush rfl rfl ?_
              refine q_iload rfl rfl rfl ?_
              refine q_iadd rfl rfl (q_tn (z := 13) rfl ?_)
              refine q_iald rfl rfl (by decide) (FW_54 S hW) (by decide) (q_tn (z := 0) rfl ?_)
              refine q_i2l rfl rfl (q_tnl (z := 0) rfl ?_)
              refine q_last rfl rfl (by decide) rfl (by decide) ?_
              refine q_icc6 (z := 2) rfl rfl rfl rfl rfl ?_
              refine q_goto rfl ?_
              refine q_iload rfl rfl rfl ?_
              refine q_iconst rfl rfl ?_
              refine q_icge rfl rfl (fun c291 => absurd c291 (by decide)) (fun c291 => ?_)
              refine q_aload_n rfl rfl rfl ?_
              refine q_getf rfl rfl (by decide) (FW_46 S hW) rfl ?_
              refine q_bipush rfl rfl ?_
              refine q_iload_n rfl rfl rfl ?_
              refine q_imul rfl rfl (q_tn (z := 360) rfl ?_)
              refine q_iload rfl rfl rfl ?_
              refine q_iadd rfl rfl (q_tn (z := 362) rfl ?_)
              refine q_aload_n rfl rfl rfl ?_
              refine q_getf rfl rfl (by decide) (FW_46 S hW) rfl ?_
              refine q_bipush rfl rfl ?_
              refine q_iload rfl rfl rfl ?_
              refine q_iadd rfl rfl (q_tn (z := 14) rfl ?_)
              refine q_iald rfl rfl (by decide) (FW_54 S hW) (by decide) (q_tn (z := 0) rfl ?_)
              refine q_i2l rfl rfl (q_tnl (z := 0) rfl ?_)
              refine q_last rfl rfl (by decide) rfl (by decide) ?_
              refine q_icc6 (z := 3) rfl rfl rfl rfl rfl ?_
              refine q_goto rfl ?_
              refine q_iload rfl rfl rfl ?_
              refine q_iconst rfl rfl ?_
              refine q_icge rfl rfl (fun c292 => absurd c292 (by decide)) (fun c292 => ?_)
              refine q_aload_n rfl rfl rfl ?_
              refine q_getf rfl rfl (by decide) (FW_46 S hW) rfl ?_
              refine q_bipush rfl rfl ?_
              refine q_iload_n rfl rfl rfl ?_
              refine q_imul rfl rfl (q_tn (z := 360) rfl ?_)
              refine q_iload rfl rfl rfl ?_
              refine q_iadd rfl rfl (q_tn (z := 363) rfl ?_)
              refine q_aload_n rfl rfl rfl ?_
              refine q_getf rfl rfl (by decide) (FW_46 S hW) rfl ?_
              refine q_bipush rfl rfl ?_
              refine q_iload rfl rfl rfl ?_
              refine q_iadd rfl rfl (q_tn (z := 15) rfl ?_)
              refine q_iald rfl rfl (by decide) (FW_54 S hW) (by decide) (q_tn (z := 0) rfl ?_)
              refine q_i2l rfl rfl (q_tnl (z := 0) rfl ?_)
              refine q_last rfl rfl (by decide) rfl (by decide) ?_
              refine q_icc6 (z := 4) rfl rfl rfl rfl rfl ?_
              refine q_goto rfl ?_
              refine q_iload rfl rfl rfl ?_
              refine q_iconst rfl rfl ?_
              refine q_icge rfl rfl (fun c293 => ?_) (fun c293 => absurd (by decide) c293)
              refine q_iconst rfl rfl ?_
              refine q_ist6 rfl rfl rfl rfl ?_
              refine q_iload rfl rfl rfl ?_
              refine q_aload_n rfl rfl rfl ?_
              refine q_getf rfl rfl (by decide) (FW_46 S hW) rfl ?_
              refine q_icge rfl rfl (fun c294 => absurd c294 (by decide)) (fun c294 => ?_)
              refine q_aload_n rfl rfl rfl ?_
              refine q_getf rfl rfl (by decide) (FW_46 S hW) rfl ?_
              refine q_bipush rfl rfl ?_
              refine q_iload_n rfl rfl rfl ?_
              refine q_imul rfl rfl (q_tn (z := 360) rfl ?_)
              refine q_iconst rfl rfl ?_
              refine q_iadd rfl rfl (q_tn (z := 364) rfl ?_)
              refine q_iload rfl rfl rfl ?_
              refine q_iadd rfl rfl (q_tn (z := 364) rfl ?_)
              refine q_aload_n rfl rfl rfl ?_
              refine q_getf rfl rfl (by decide) (FW_46 S hW) rfl ?_
              refine q_iconst rfl rfl ?_
              refine q_iload rfl rfl rfl ?_
              refine q_imul rfl rfl (q_tn (z := 0) rfl ?_)
              refine q_iconst rfl rfl ?_
              refine q_iadd rfl rfl (q_tn (z := 1) rfl ?_)
              refine q_iald rfl rfl (by decide) (FW_54 S hW) (by decide) (q_tn (z := 0) rfl ?_)
              refine q_i2l rfl rfl (q_tnl (z := 0) rfl ?_)
              refine q_last rfl rfl (by decide) rfl (by decide) ?_
              refine q_icc6 (z := 1) rfl rfl rfl rfl rfl ?_
              refine q_goto rfl ?_
              refine q_iload rfl rfl rfl ?_
              refine q_aload_n rfl rfl rfl ?_
              refine q_getf rfl rfl (by decide) (FW_46 S hW) rfl ?_
              refine q_icge rfl rfl (fun c295 => ?_) (fun c295 => absurd (by decide) c295)
              refine q_goto rfl ?_
              refine q_iconst rfl rfl ?_
              refine q_iret rfl rfl trivial ?_
              refine ⟨_, rfl, ?_⟩
              refine q_iceq rfl rfl (fun c296 => ?_) (fun c296 => absurd (by decide) c296)
              refine q_icc4 (z := 6) rfl rfl rfl rfl rfl ?_
              refine q_goto rfl ?_
              refine q_iload rfl rfl rfl ?_
              refine q_aload_nF rfl rfl rfl ?_
              refine q_alenX (x := 6) rfl rfl rfl ?_
              refine q_bipush rfl rfl ?_
              refine q_isub rfl rfl (q_tn (z := 0) rfl ?_)
              refine q_icgt rfl rfl (fun c297 => ?_) (fun c297 => absurd (by decide) c297)
              refine q_iconst rfl rfl ?_
              refine q_iret rfl rfl rfl ?_
              exact hK _ _
            · refine q_aast rfl rfl (by decide) (by decide) (FW_43 S hW) rfl rfl (by decide) ?_
              refine q_iconst rfl rfl ?_
              refine q_iret rfl rfl trivial ?_
              refine ⟨_, rfl, ?_⟩
              refine q_aload_n rfl rfl rfl ?_
              refine q_aload_nF rfl rfl rfl ?_
              refine q_iload rfl rfl rfl ?_
              refine q_iconst rfl rfl ?_
              refine q_iadd rfl rfl (q_tn (z := 1) rfl ?_)
              refine q_ialdX (x := 7) rfl rfl rfl hx1 ?_
              refine q_aload_nF rfl rfl rfl ?_
              refine q_iload rfl rfl rfl ?_
              refine q_iconst rfl rfl ?_
              refine q_iadd rfl rfl (q_tn (z := 2) rfl ?_)
              refine q_ialdX (x := 3) rfl rfl rfl hx2 ?_
              refine q_aload_nF rfl rfl rfl ?_
              refine q_iload rfl rfl rfl ?_
              refine q_iconst rfl rfl ?_
              refine q_iadd rfl rfl (q_tn (z := 3) rfl ?_)
              refine q_ialdX (x := x3) rfl rfl rfl hx3 ?_
              refine q_aload_nF rfl rfl rfl ?_
              refine q_iload rfl rfl rfl ?_
              refine q_iconst rfl rfl ?_
              refine q_iadd rfl rfl (q_tn (z := 4) rfl ?_)
              refine q_ialdX (x := x4) rfl rfl rfl hx4 ?_
              refine q_nV4 rfl rfl (Or.inl rfl) rfl rfl rfl (by decide) (FW_46 S hW) ⟨rfl, rfl⟩ rfl ?_
              change PQ _ _ _ mm_X12_keep 0 [.ref 46, .int 7, .int 3, .int x3, .int x4, pm_un, pm_un] [] _ _ 0 0 _
              refine q_aload_n rfl rfl rfl ?_
              refine q_iload_n rfl rfl rfl ?_
              refine q_nV1 rfl rfl (Or.inl rfl) rfl rfl rfl (by decide) (FW_46 S hW) ⟨rfl, rfl⟩ rfl ?_
              change PQ _ _ _ mm_X12_isShelf 0 [.ref 46, .int 7] [] _ _ 0 0 _
              refine q_aload_n rfl rfl rfl ?_
              refine q_iload_n rfl rfl rfl ?_
              refine q_iconst rfl rfl ?_
              refine q_bipush rfl rfl ?_
              refine q_nV3 rfl rfl (Or.inl rfl) rfl rfl rfl (by decide) (FW_46 S hW) ⟨rfl, rfl⟩ rfl ?_
              change PQ _ _ _ mm_X12_in 0 [.ref 46, .int 7, .int 0, .int 7] [] _ _ 0 0 _
              refine q_iload_n rfl rfl rfl ?_
              refine q_iload_n rfl rfl rfl ?_
              refine q_iclt rfl rfl (fun c298 => absurd c298 (by decide)) (fun c298 => ?_)
              refine q_iload_n rfl rfl rfl ?_
              refine q_iload_n rfl rfl rfl ?_
              refine q_icgt rfl rfl (fun c299 => absurd c299 (by decide)) (fun c299 => ?_)
              refine q_iconst rfl rfl ?_
              refine q_goto rfl ?_
              refine q_iret rfl rfl rfl ?_
              refine ⟨_, rfl, ?_⟩
              refine q_iret rfl rfl rfl ?_
              refine ⟨_, rfl, ?_⟩
              refine q_ifeq rfl rfl (fun c300 => absurd c300 (by decide)) (fun c300 => ?_)
              refine q_iload_n rfl rfl rfl ?_
              refine q_ifeq rfl rfl (fun c301 => absurd c301 (by decide)) (fun c301 => ?_)
              refine q_iload_n rfl rfl rfl ?_
              refine q_iconst rfl rfl ?_
              refine q_iceq rfl rfl (fun c302 => ?_) (fun c302 => absurd (by decide) c302)
              refine q_iconst rfl rfl ?_
              refine q_goto rfl ?_
              refine q_ist5 rfl rfl rfl rfl ?_
              refine q_iload rfl rfl rfl ?_
              refine q_ifne rfl rfl (fun c303 => absurd c303 (by decide)) (fun c303 => ?_)
              refine q_aload_n rfl rfl rfl ?_
              refine q_getf rfl rfl (by decide) (FW_46 S hW) rfl ?_
              refine q_iload_n rfl rfl rfl ?_
              refine q_iload_n rfl rfl rfl ?_
              refine q_iast rfl rfl (by decide) (FW_75 S hW) (by decide) ?_
              refine q_aload_n rfl rfl rfl ?_
              refine q_iload_n rfl rfl rfl ?_
              refine q_cV1v rfl rfl (Or.inl rfl) rfl rfl rfl (by decide) (FW_46 S hW) ⟨rfl, rfl⟩ rfl (fun K' hK' => l_clear (D := 7) (by decide) rfl (by decide) (FW_46 S hW) rfl (FW_79 S hW) hK') ?_
              refine q_iload_n rfl rfl rfl ?_
              refine q_iconst rfl rfl ?_
              refine q_icne rfl rfl (fun c304 => absurd c304 (by decide)) (fun c304 => ?_)
              refine q_iload_n rfl rfl rfl ?_
              refine q_iconst rfl rfl ?_
              refine q_icne rfl rfl (fun c305 => ?_) (fun c305 => absurd (by decide) c305)
              refine q_aload_n rfl rfl rfl ?_
              refine q_getf rfl rfl (by decide) (FW_46 S hW) rfl ?_
              refine q_iload_n rfl rfl rfl ?_
              refine q_iconst rfl rfl ?_
              refine q_aload_n rfl rfl rfl ?_
              refine q_getf rfl rfl (by decide) (FW_46 S hW) rfl ?_
              refine q_iadd rfl rfl (q_tn (z := 5) rfl ?_)
              refine q_iast rfl rfl (by decide) (FW_78 S hW) (by decide) ?_
              refine q_iconst rfl rfl ?_
              refine q_ist6 rfl rfl rfl rfl ?_
              refine q_iload rfl rfl rfl ?_
              refine q_iconst rfl rfl ?_
              refine q_icge rfl rfl (fun c306 => absurd c306 (by decide)) (fun c306 => ?_)
              refine q_aload_n rfl rfl rfl ?_
              refine q_getf rfl rfl (by decide) (FW_46 S hW) rfl ?_
              refine q_bipush rfl rfl ?_
              refine q_iload_n rfl rfl rfl ?_
              refine q_imul rfl rfl (q_tn (z := 420) rfl ?_)
              refine q_iload rfl rfl rfl ?_
              refine q_iadd rfl rfl (q_tn (z := 420) rfl ?_)
              refine q_aload_n rfl rfl rfl ?_
              refine q_getf rfl rfl (by decide) (FW_46 S hW) rfl ?_
              refine q_bipush rfl rfl ?_
              refine q_iload rfl rfl rfl ?_
              refine q_iadd rfl rfl (q_tn (z := 12) rfl ?_)
              refine q_iald rfl rfl (by decide) (FW_54 S hW) (by decide) (q_tn (z := 0) rfl ?_)
              refine q_i2l rfl rfl (q_tnl (z := 0) rfl ?_)
              refine q_last rfl rfl (by decide) (FW_79 S hW) (by decide) ?_
              refine q_icc6 (z := 1) rfl rfl rfl rfl rfl ?_
              refine q_goto rfl ?_
              refine q_iload rfl rfl rfl ?_
              refine q_iconst rfl rfl ?_
              refine q_icge rfl rfl (fun c307 => absurd c307 (by decide)) (fun c307 => ?_)
              refine q_aload_n rfl rfl rfl ?_
              refine q_getf rfl rfl (by decide) (FW_46 S hW) rfl ?_
              refine q_bipush rfl rfl ?_
              refine q_iload_n rfl rfl rfl ?_
              refine q_imul rfl rfl (q_tn (z := 420) rfl ?_)
              refine q_iload rfl rfl rfl ?_
              refine q_iadd rfl rfl (q_tn (z := 421) rfl ?_)
              refine q_aload_n rfl rfl rfl ?_
              refine q_getf rfl rfl (by decide) (FW_46 S hW) rfl ?_
              refine q_bipush rfl rfl ?_
              refine q_iload rfl rfl rfl ?_
              refine q_iadd rfl rfl (q_tn (z := 13) rfl ?_)
              refine q_iald rfl rfl (by decide) (FW_54 S hW) (by decide) (q_tn (z := 0) rfl ?_)
              refine q_i2l rfl rfl (q_tnl (z := 0) rfl ?_)
              refine q_last rfl rfl (by decide) rfl (by decide) ?_
              refine q_icc6 (z := 2) rfl rfl rfl rfl rfl ?_
              refine q_goto rfl ?_
              refine q_iload rfl rfl rfl ?_
              refine q_iconst rfl rfl ?_
              refine q_icge rfl rfl (fun c308 => absurd c308 (by decide)) (fun c308 => ?_)
              refine q_aload_n rfl rfl rfl ?_
              refine q_getf rfl rfl (by decide) (FW_46 S hW) rfl ?_
              refine q_bipush rfl rfl ?_
              refine q_iload_n rfl rfl rfl ?_
              refine q_imul rfl rfl (q_tn (z := 420) rfl ?_)
              refine q_iload rfl rfl rfl ?_
              refine q_iadd rfl rfl (q_tn (z := 422) rfl ?_)
              refine q_aload_n rfl rfl rfl ?_
              refine q_getf rfl rfl (by decide) (FW_46 S hW) rfl ?_
              refine q_bipush rfl rfl ?_
              refine q_iload rfl rfl rfl ?_
              refine q_iadd rfl rfl (q_tn (z := 14) rfl ?_)
              refine q_iald rfl rfl (by decide) (FW_54 S hW) (by decide) (q_tn (z := 0) rfl ?_)
              refine q_i2l rfl rfl (q_tnl (z := 0) rfl ?_)
              refine q_last rfl rfl (by decide) rfl (by decide) ?_
              refine q_icc6 (z := 3) rfl rfl rfl rfl rfl ?_
              refine q_goto rfl ?_
              refine q_iload rfl rfl rfl ?_
              refine q_iconst rfl rfl ?_
              refine q_icge rfl rfl (fun c309 => absurd c309 (by decide)) (fun c309 => ?_)
              refine q_aload_n rfl rfl rfl ?_
              refine q_getf rfl rfl (by decide) (FW_46 S hW) rfl ?_
              refine q_bipush rfl rfl ?_
              refine q_iload_n rfl rfl rfl ?_
              refine q_imul rfl rfl (q_tn (z := 420) rfl ?_)
              refine q_iload rfl rfl rfl ?_
              refine q_iadd rfl rfl (q_tn (z := 423) rfl ?_)
              refine q_aload_n rfl rfl rfl ?_
              refine q_getf rfl rfl (by decide) (FW_46 S hW) rfl ?_
              refine q_bipush rfl rfl ?_
              refine q_iload rfl rfl rfl ?_
              refine q_iadd rfl rfl (q_tn (z := 15) rfl ?_)
              refine q_iald rfl rfl (by decide) (FW_54 S hW) (by decide) (q_tn (z := 0) rfl ?_)
              refine q_i2l rfl rfl (q_tnl (z := 0) rfl ?_)
              refine q_last rfl rfl (by decide) rfl (by decide) ?_
              refine q_icc6 (z := 4) rfl rfl rfl rfl rfl ?_
              refine q_goto rfl ?_
              refine q_iload rfl rfl rfl ?_
              refine q_iconst rfl rfl ?_
              refine q_icge rfl rfl (fun c310 => ?_) (fun c310 => absurd (by decide) c310)
              refine q_iconst rfl rfl ?_
              refine q_ist6 rfl rfl rfl rfl ?_
              refine q_iload rfl rfl rfl ?_
              refine q_aload_n rfl rfl rfl ?_
              refine q_getf rfl rfl (by decide) (FW_46 S hW) rfl ?_
              refine q_icge rfl rfl (fun c311 => absurd c311 (by decide)) (fun c311 => ?_)
              refine q_aload_n rfl rfl rfl ?_
              refine q_getf rfl rfl (by decide) (FW_46 S hW) rfl ?_
              refine q_bipush rfl rfl ?_
              refine q_iload_n rfl rfl rfl ?_
              refine q_imul rfl rfl (q_tn (z := 420) rfl ?_)
              refine q_iconst rfl rfl ?_
              refine q_iadd rfl rfl (q_tn (z := 424) rfl ?_)
              refine q_iload rfl rfl rfl ?_
              refine q_iadd rfl rfl (q_tn (z := 424) rfl ?_)
              refine q_aload_n rfl rfl rfl ?_
              refine q_getf rfl rfl (by decide) (FW_46 S hW) rfl ?_
              refine q_iconst rfl rfl ?_
              refine q_iload rfl rfl rfl ?_
              refine q_imul rfl rfl (q_tn (z := 0) rfl ?_)
              refine q_iconst rfl rfl ?_
              refine q_iadd rfl rfl (q_tn (z := 1) rfl ?_)
              refine q_iald rfl rfl (by decide) (FW_54 S hW) (by decide) (q_tn (z := 0) rfl ?_)
              refine q_i2l rfl rfl (q_tnl (z := 0) rfl ?_)
              refine q_last rfl rfl (by decide) rfl (by decide) ?_
              refine q_icc6 (z := 1) rfl rfl rfl rfl rfl ?_
              refine q_goto rfl ?_
              refine q_iload rfl rfl rfl ?_
              refine q_aload_n rfl rfl rfl ?_
              refine q_getf rfl rfl (by decide) (FW_46 S hW) rfl ?_
              refine q_icge rfl rfl (fun c312 => ?_) (fun c312 => absurd (by decide) c312)
              refine q_goto rfl ?_
              refine q_iconst rfl rfl ?_
              refine q_iret rfl rfl trivial ?_
              refine ⟨_, rfl, ?_⟩
              refine q_iceq rfl rfl (fun c313 => ?_) (fun c313 => absurd (by decide) c313)
              refine q_icc4 (z := 6) rfl rfl rfl rfl rfl ?_
              refine q_goto rfl ?_
              refine q_iload rfl rfl rfl ?_
              refine q_aload_nF rfl rfl rfl ?_
              refine q_alenX (x := 6) rfl rfl rfl ?_
              refine q_bipush rfl rfl ?_
              refine q_isub rfl rfl (q_tn (z := 0) rfl ?_)
              refine q_icgt rfl rfl (fun c314 => ?_) (fun c314 => absurd (by decide) c314)
              refine q_iconst rfl rfl ?_
              refine q_iret rfl rfl rfl ?_
              exact hK _ _
          · refine q_iload_n rfl rfl rfl ?_
            refine q_iconst rfl rfl ?_
            refine q_icne rfl rfl (fun c315 => ?_) (fun c315 => ?_)
            · subst c315
              refine q_aload_n rfl rfl rfl ?_
              refine q_getf rfl rfl (by decide) (FW_0 S hW) rfl ?_
              refine q_iload_n rfl rfl rfl ?_
              refine q_nV1 rfl rfl (Or.inl rfl) rfl rfl rfl (by decide) (FW_1 S hW) ⟨rfl, rfl⟩ rfl ?_
              change PQ _ _ _ mm_X8_hasHand 0 [.ref 1, .int x3] [] _ _ 0 0 _
              refine q_iload_n rfl rfl rfl ?_
              refine q_iflt rfl rfl (fun c316 => ?_) (fun c316 => ?_)
              · refine q_iconst rfl rfl ?_
                refine q_iret rfl rfl rfl ?_
                refine ⟨_, rfl, ?_⟩
                refine q_ifeq rfl rfl (fun c317 => ?_) (fun c317 => absurd (by decide) c317)
                refine q_iconst rfl rfl ?_
                refine q_iret rfl rfl trivial ?_
                refine ⟨_, rfl, ?_⟩
                refine q_aload_n rfl rfl rfl ?_
                refine q_aload_nF rfl rfl rfl ?_
                refine q_iload rfl rfl rfl ?_
                refine q_iconst rfl rfl ?_
                refine q_iadd rfl rfl (q_tn (z := 1) rfl ?_)
                refine q_ialdX (x := x1) rfl rfl rfl hx1 ?_
                refine q_aload_nF rfl rfl rfl ?_
                refine q_iload rfl rfl rfl ?_
                refine q_iconst rfl rfl ?_
                refine q_iadd rfl rfl (q_tn (z := 2) rfl ?_)
                refine q_ialdX (x := 4) rfl rfl rfl hx2 ?_
                refine q_aload_nF rfl rfl rfl ?_
                refine q_iload rfl rfl rfl ?_
                refine q_iconst rfl rfl ?_
                refine q_iadd rfl rfl (q_tn (z := 3) rfl ?_)
                refine q_ialdX (x := x3) rfl rfl rfl hx3 ?_
                refine q_aload_nF rfl rfl rfl ?_
                refine q_iload rfl rfl rfl ?_
                refine q_iconst rfl rfl ?_
                refine q_iadd rfl rfl (q_tn (z := 4) rfl ?_)
                refine q_ialdX (x := x4) rfl rfl rfl hx4 ?_
                refine q_nV4 rfl rfl (Or.inl rfl) rfl rfl rfl (by decide) (FW_46 S hW) ⟨rfl, rfl⟩ rfl ?_
                change PQ _ _ _ mm_X12_keep 0 [.ref 46, .int x1, .int 4, .int x3, .int x4, pm_un, pm_un] [] _ _ 0 0 _
                refine q_aload_n rfl rfl rfl ?_
                refine q_iload_n rfl rfl rfl ?_
                refine q_nV1 rfl rfl (Or.inl rfl) rfl rfl rfl (by decide) (FW_46 S hW) ⟨rfl, rfl⟩ rfl ?_
                change PQ _ _ _ mm_X12_isShelf 0 [.ref 46, .int x1] [] _ _ 0 0 _
                refine q_aload_n rfl rfl rfl ?_
                refine q_iload_n rfl rfl rfl ?_
                refine q_iconst rfl rfl ?_
                refine q_bipush rfl rfl ?_
                refine q_nV3 rfl rfl (Or.inl rfl) rfl rfl rfl (by decide) (FW_46 S hW) ⟨rfl, rfl⟩ rfl ?_
                change PQ _ _ _ mm_X12_in 0 [.ref 46, .int x1, .int 0, .int 7] [] _ _ 0 0 _
                refine q_iload_n rfl rfl rfl ?_
                refine q_iload_n rfl rfl rfl ?_
                refine q_iclt rfl rfl (fun c318 => absurd c318 (i_lt_f (i_nlt c1) rfl)) (fun c318 => ?_)
                refine q_iload_n rfl rfl rfl ?_
                refine q_iload_n rfl rfl rfl ?_
                refine q_icgt rfl rfl (fun c319 => absurd c319 (i_gt_f (i_ltle (i_nle c8) (B := 7) rfl) rfl)) (fun c319 => ?_)
                refine q_iconst rfl rfl ?_
                refine q_goto rfl ?_
                refine q_iret rfl rfl rfl ?_
                refine ⟨_, rfl, ?_⟩
                refine q_iret rfl rfl rfl ?_
                refine ⟨_, rfl, ?_⟩
                refine q_ifeq rfl rfl (fun c320 => absurd c320 (by decide)) (fun c320 => ?_)
                refine q_iload_n rfl rfl rfl ?_
                refine q_ifeq rfl rfl (fun c321 => absurd c321 (by decide)) (fun c321 => ?_)
                refine q_iload_n rfl rfl rfl ?_
                refine q_iconst rfl rfl ?_
                refine q_iceq rfl rfl (fun c322 => absurd c322 (by decide)) (fun c322 => ?_)
                refine q_iload_n rfl rfl rfl ?_
                refine q_iconst rfl rfl ?_
                refine q_icne rfl rfl (fun c323 => absurd c323 (by decide)) (fun c323 => ?_)
                refine q_iload_n rfl rfl rfl ?_
                refine q_iconst rfl rfl ?_
                refine q_icne rfl rfl (fun c324 => ?_) (fun c324 => absurd (by decide) c324)
                refine q_aload_n rfl rfl rfl ?_
                refine q_iload_n rfl rfl rfl ?_
                refine q_nV1 rfl rfl (Or.inl rfl) rfl rfl rfl (by decide) (FW_46 S hW) ⟨rfl, rfl⟩ rfl ?_
                change PQ _ _ _ mm_X12_isHand 0 [.ref 46, .int x3] [] _ _ 0 0 _
                refine q_aload_n rfl rfl rfl ?_
                refine q_iload_n rfl rfl rfl ?_
                refine q_iconst rfl rfl ?_
                refine q_aload_n rfl rfl rfl ?_
                refine q_getf rfl rfl (by decide) (FW_46 S hW) rfl ?_
                refine q_iconst rfl rfl ?_
                refine q_isub rfl rfl (q_tn (z := 0) rfl ?_)
                refine q_nV3 rfl rfl (Or.inl rfl) rfl rfl rfl (by decide) (FW_46 S hW) ⟨rfl, rfl⟩ rfl ?_
                change PQ _ _ _ mm_X12_in 0 [.ref 46, .int x3, .int 0, .int 0] [] _ _ 0 0 _
                refine q_iload_n rfl rfl rfl ?_
                refine q_iload_n rfl rfl rfl ?_
                refine q_iclt rfl rfl (fun c325 => ?_) (fun c325 => absurd (i_lt_t (i_ltle c316 (B := (-1)) rfl) rfl) c325)
                refine q_iconst rfl rfl ?_
                refine q_iret rfl rfl rfl ?_
                refine ⟨_, rfl, ?_⟩
                refine q_iret rfl rfl rfl ?_
                refine ⟨_, rfl, ?_⟩
                refine q_ifeq rfl rfl (fun c326 => ?_) (fun c326 => absurd (by decide) c326)
                refine q_iconst rfl rfl ?_
                refine q_ist5 rfl rfl rfl rfl ?_
                refine q_iload rfl rfl rfl ?_
                refine q_ifne rfl rfl (fun c327 => ?_) (fun c327 => absurd (by decide) c327)
                refine q_iconst rfl rfl ?_
                refine q_iret rfl rfl trivial ?_
                refine ⟨_, rfl, ?_⟩
                refine q_iceq rfl rfl (fun c328 => ?_) (fun c328 => absurd (by decide) c328)
                refine q_icc4 (z := 6) rfl rfl rfl rfl rfl ?_
                refine q_goto rfl ?_
                refine q_iload rfl rfl rfl ?_
                refine q_aload_nF rfl rfl rfl ?_
                refine q_alenX (x := 6) rfl rfl rfl ?_
                refine q_bipush rfl rfl ?_
                refine q_isub rfl rfl (q_tn (z := 0) rfl ?_)
                refine q_icgt rfl rfl (fun c329 => ?_) (fun c329 => absurd (by decide) c329)
                refine q_iconst rfl rfl ?_
                refine q_iret rfl rfl rfl ?_
                exact hK _ _
              · refine q_iload_n rfl rfl rfl ?_
                refine q_aload_n rfl rfl rfl ?_
                refine q_getf rfl rfl (by decide) (FW_1 S hW) rfl ?_
                refine q_icge rfl rfl (fun c330 => ?_) (fun c330 => ?_)
                · refine q_iconst rfl rfl ?_
                  refine q_iret rfl rfl rfl ?_
                  refine ⟨_, rfl, ?_⟩
                  refine q_ifeq rfl rfl (fun c331 => ?_) (fun c331 => absurd (by decide) c331)
                  refine q_iconst rfl rfl ?_
                  refine q_iret rfl rfl trivial ?_
                  refine ⟨_, rfl, ?_⟩
                  refine q_aload_n rfl rfl rfl ?_
                  refine q_aload_nF rfl rfl rfl ?_
                  refine q_iload rfl rfl rfl ?_
                  refine q_iconst rfl rfl ?_
                  refine q_iadd rfl rfl (q_tn (z := 1) rfl ?_)
                  refine q_ialdX (x := x1) rfl rfl rfl hx1 ?_
                  refine q_aload_nF rfl rfl rfl ?_
                  refine q_iload rfl rfl rfl ?_
                  refine q_iconst rfl rfl ?_
                  refine q_iadd rfl rfl (q_tn (z := 2) rfl ?_)
                  refine q_ialdX (x := 4) rfl rfl rfl hx2 ?_
                  refine q_aload_nF rfl rfl rfl ?_
                  refine q_iload rfl rfl rfl ?_
                  refine q_iconst rfl rfl ?_
                  refine q_iadd rfl rfl (q_tn (z := 3) rfl ?_)
                  refine q_ialdX (x := x3) rfl rfl rfl hx3 ?_
                  refine q_aload_nF rfl rfl rfl ?_
                  refine q_iload rfl rfl rfl ?_
                  refine q_iconst rfl rfl ?_
                  refine q_iadd rfl rfl (q_tn (z := 4) rfl ?_)
                  refine q_ialdX (x := x4) rfl rfl rfl hx4 ?_
                  refine q_nV4 rfl rfl (Or.inl rfl) rfl rfl rfl (by decide) (FW_46 S hW) ⟨rfl, rfl⟩ rfl ?_
                  change PQ _ _ _ mm_X12_keep 0 [.ref 46, .int x1, .int 4, .int x3, .int x4, pm_un, pm_un] [] _ _ 0 0 _
                  refine q_aload_n rfl rfl rfl ?_
                  refine q_iload_n rfl rfl rfl ?_
                  refine q_nV1 rfl rfl (Or.inl rfl) rfl rfl rfl (by decide) (FW_46 S hW) ⟨rfl, rfl⟩ rfl ?_
                  change PQ _ _ _ mm_X12_isShelf 0 [.ref 46, .int x1] [] _ _ 0 0 _
                  refine q_aload_n rfl rfl rfl ?_
                  refine q_iload_n rfl rfl rfl ?_
                  refine q_iconst rfl rfl ?_
                  refine q_bipush rfl rfl ?_
                  refine q_nV3 rfl rfl (Or.inl rfl) rfl rfl rfl (by decide) (FW_46 S hW) ⟨rfl, rfl⟩ rfl ?_
                  change PQ _ _ _ mm_X12_in 0 [.ref 46, .int x1, .int 0, .int 7] [] _ _ 0 0 _
                  refine q_iload_n rfl rfl rfl ?_
                  refine q_iload_n rfl rfl rfl ?_
                  refine q_iclt rfl rfl (fun c332 => absurd c332 (i_lt_f (i_nlt c1) rfl)) (fun c332 => ?_)
                  refine q_iload_n rfl rfl rfl ?_
                  refine q_iload_n rfl rfl rfl ?_
                  refine q_icgt rfl rfl (fun c333 => absurd c333 (i_gt_f (i_ltle (i_nle c8) (B := 7) rfl) rfl)) (fun c333 => ?_)
                  refine q_iconst rfl rfl ?_
                  refine q_goto rfl ?_
                  refine q_iret rfl rfl rfl ?_
                  refine ⟨_, rfl, ?_⟩
                  refine q_iret rfl rfl rfl ?_
                  refine ⟨_, rfl, ?_⟩
                  refine q_ifeq rfl rfl (fun c334 => absurd c334 (by decide)) (fun c334 => ?_)
                  refine q_iload_n rfl rfl rfl ?_
                  refine q_ifeq rfl rfl (fun c335 => absurd c335 (by decide)) (fun c335 => ?_)
                  refine q_iload_n rfl rfl rfl ?_
                  refine q_iconst rfl rfl ?_
                  refine q_iceq rfl rfl (fun c336 => absurd c336 (by decide)) (fun c336 => ?_)
                  refine q_iload_n rfl rfl rfl ?_
                  refine q_iconst rfl rfl ?_
                  refine q_icne rfl rfl (fun c337 => absurd c337 (by decide)) (fun c337 => ?_)
                  refine q_iload_n rfl rfl rfl ?_
                  refine q_iconst rfl rfl ?_
                  refine q_icne rfl rfl (fun c338 => ?_) (fun c338 => absurd (by decide) c338)
                  refine q_aload_n rfl rfl rfl ?_
                  refine q_iload_n rfl rfl rfl ?_
                  refine q_nV1 rfl rfl (Or.inl rfl) rfl rfl rfl (by decide) (FW_46 S hW) ⟨rfl, rfl⟩ rfl ?_
                  change PQ _ _ _ mm_X12_isHand 0 [.ref 46, .int x3] [] _ _ 0 0 _
                  refine q_aload_n rfl rfl rfl ?_
                  refine q_iload_n rfl rfl rfl ?_
                  refine q_iconst rfl rfl ?_
                  refine q_aload_n rfl rfl rfl ?_
                  refine q_getf rfl rfl (by decide) (FW_46 S hW) rfl ?_
                  refine q_iconst rfl rfl ?_
                  refine q_isub rfl rfl (q_tn (z := 0) rfl ?_)
                  refine q_nV3 rfl rfl (Or.inl rfl) rfl rfl rfl (by decide) (FW_46 S hW) ⟨rfl, rfl⟩ rfl ?_
                  change PQ _ _ _ mm_X12_in 0 [.ref 46, .int x3, .int 0, .int 0] [] _ _ 0 0 _
                  refine q_iload_n rfl rfl rfl ?_
                  refine q_iload_n rfl rfl rfl ?_
                  refine q_iclt rfl rfl (fun c339 => absurd c339 (i_lt_f c330 rfl)) (fun c339 => ?_)
                  refine q_iload_n rfl rfl rfl ?_
                  refine q_iload_n rfl rfl rfl ?_
                  refine q_icgt rfl rfl (fun c340 => ?_) (fun c340 => absurd (i_gt_t c330 rfl) c340)
                  refine q_iconst rfl rfl ?_
                  refine q_iret rfl rfl rfl ?_
                  refine ⟨_, rfl, ?_⟩
                  refine q_iret rfl rfl rfl ?_
                  refine ⟨_, rfl, ?_⟩
                  refine q_ifeq rfl rfl (fun c341 => ?_) (fun c341 => absurd (by decide) c341)
                  refine q_iconst rfl rfl ?_
                  refine q_ist5 rfl rfl rfl rfl ?_
                  refine q_iload rfl rfl rfl ?_
                  refine q_ifne rfl rfl (fun c342 => ?_) (fun c342 => absurd (by decide) c342)
                  refine q_iconst rfl rfl ?_
                  refine q_iret rfl rfl trivial ?_
                  refine ⟨_, rfl, ?_⟩
                  refine q_iceq rfl rfl (fun c343 => ?_) (fun c343 => absurd (by decide) c343)
                  refine q_icc4 (z := 6) rfl rfl rfl rfl rfl ?_
                  refine q_goto rfl ?_
                  refine q_iload rfl rfl rfl ?_
                  refine q_aload_nF rfl rfl rfl ?_
                  refine q_alenX (x := 6) rfl rfl rfl ?_
                  refine q_bipush rfl rfl ?_
                  refine q_isub rfl rfl (q_tn (z := 0) rfl ?_)
                  refine q_icgt rfl rfl (fun c344 => ?_) (fun c344 => absurd (by decide) c344)
                  refine q_iconst rfl rfl ?_
                  refine q_iret rfl rfl rfl ?_
                  exact hK _ _
                · have e344 : x3 = 0 := Int32.le_antisymm (i_ltle (i_nle c330) (B := 0) rfl) (i_nlt c316)
                  subst e344
                  refine q_iconst rfl rfl ?_
                  refine q_goto rfl ?_
                  refine q_iret rfl rfl rfl ?_
                  refine ⟨_, rfl, ?_⟩
                  refine q_ifeq rfl rfl (fun c345 => absurd c345 (by decide)) (fun c345 => ?_)
                  refine q_aload_n rfl rfl rfl ?_
                  refine q_getf rfl rfl (by decide) (FW_0 S hW) rfl ?_
                  refine q_iload_n rfl rfl rfl ?_
                  refine q_aload_n rfl rfl rfl ?_
                  refine q_iload_n rfl rfl rfl ?_
                  refine q_nV1A rfl rfl (Or.inl rfl) rfl rfl rfl (by decide) (FW_0 S hW) ⟨rfl, rfl⟩ rfl rfl rfl ?_
                  change PQ _ _ _ mm_X11_kindsOf 0 [.ref 0, .int 0, pm_un, pm_un, pm_un] [] _ _ 0 0 _
                  refine q_aload_n rfl rfl rfl ?_
                  refine q_getf rfl rfl (by decide) (FW_0 S hW) rfl ?_
                  refine q_iload_n rfl rfl rfl ?_
                  refine q_nV1 rfl rfl (Or.inl rfl) rfl rfl rfl (by decide) (FW_1 S hW) ⟨rfl, rfl⟩ rfl ?_
                  change PQ _ _ _ mm_X8_lengthOf 0 [.ref 1, .int 0] [] _ _ 0 0 _
                  refine q_iload_n rfl rfl rfl ?_
                  refine q_iflt rfl rfl (fun c346 => absurd c346 (by decide)) (fun c346 => ?_)
                  refine q_iload_n rfl rfl rfl ?_
                  refine q_aload_n rfl rfl rfl ?_
                  refine q_getf rfl rfl (by decide) (FW_1 S hW) rfl ?_
                  refine q_icge rfl rfl (fun c347 => absurd c347 (by decide)) (fun c347 => ?_)
                  refine q_aload_n rfl rfl rfl ?_
                  refine q_getf rfl rfl (by decide) (FW_1 S hW) rfl ?_
                  refine q_iload_n rfl rfl rfl ?_
                  refine q_iald rfl rfl (by decide) (FW_3 S hW) (by decide) (q_tn (z := 0) rfl ?_)
                  refine q_goto rfl ?_
                  refine q_iret rfl rfl trivial ?_
                  refine ⟨_, rfl, ?_⟩
                  refine q_ist2n rfl rfl rfl rfl ?_
                  refine q_new rfl rfl rfl rfl ?_
                  refine q_dupr rfl rfl ?_
                  refine q_iload_n rfl rfl rfl ?_
                  refine q_nI1vA rfl rfl (Or.inl rfl) rfl rfl ⟨rfl, rfl⟩ rfl rfl rfl ?_
                  change PQ _ _ _ mm_X9_init 0 [.ref 82, .int 0] [] _ _ 0 0 _
                  refine q_aload_n rfl rfl rfl ?_
                  refine q_nI0v rfl rfl (Or.inr rfl) rfl rfl ⟨rfl, rfl⟩ rfl ?_
                  change PQ _ _ _ mm_X2_init 0 [.ref 82] [] _ _ 0 0 _
                  refine q_aload_n rfl rfl rfl ?_
                  refine q_objI rfl rfl rfl ?_
                  refine q_ret rfl rfl ?_
                  refine ⟨rfl, ?_⟩
                  refine q_aload_n rfl rfl rfl ?_
                  refine q_iload_n rfl rfl rfl ?_
                  refine q_iconst rfl rfl ?_
                  refine q_mmax (z := 0) rfl om_sr rfl rfl rfl ?_
                  refine q_newa (m0 := 0) rfl rfl (by decide) rfl rfl rfl rfl ?_
                  refine q_putf rfl rfl (by decide) rfl (by decide) rfl trivial ?_
                  refine q_ret rfl rfl ?_
                  refine ⟨rfl, ?_⟩
                  refine q_ast3n rfl rfl rfl rfl ?_
                  refine q_iconst rfl rfl ?_
                  refine q_ist4 rfl rfl rfl rfl ?_
                  refine q_iload rfl rfl rfl ?_
                  refine q_iload_n rfl rfl rfl ?_
                  refine q_icge rfl rfl (fun c348 => ?_) (fun c348 => absurd (by decide) c348)
                  refine q_aload_n rfl rfl rfl ?_
                  refine q_aret rfl rfl trivial ?_
                  refine ⟨_, rfl, ?_⟩
                  rcases i_en7 (i_nlt c1) (i_ltle (i_nle c8) (B := 7) rfl) with rfl | rfl | rfl | rfl | rfl | rfl | rfl | rfl
                  · refine q_aast rfl rfl (by decide) (by decide) (FW_43 S hW) rfl rfl (by decide) ?_
                    refine q_iconst rfl rfl ?_
                    refine q_iret rfl rfl trivial ?_
                    refine ⟨_, rfl, ?_⟩
                    refine q_aload_n rfl rfl rfl ?_
                    refine q_aload_nF rfl rfl rfl ?_
                    refine q_iload rfl rfl rfl ?_
                    refine q_iconst rfl rfl ?_
                    refine q_iadd rfl rfl (q_tn (z := 1) rfl ?_)
                    refine q_ialdX (x := 0) rfl rfl rfl hx1 ?_
                    refine q_aload_nF rfl rfl rfl ?_
                    refine q_iload rfl rfl rfl ?_
                    refine q_iconst rfl rfl ?_
                    refine q_iadd rfl rfl (q_tn (z := 2) rfl ?_)
                    refine q_ialdX (x := 4) rfl rfl rfl hx2 ?_
                    refine q_aload_nF rfl rfl rfl ?_
                    refine q_iload rfl rfl rfl ?_
                    refine q_iconst rfl rfl ?_
                    refine q_iadd rfl rfl (q_tn (z := 3) rfl ?_)
                    refine q_ialdX (x := 0) rfl rfl rfl hx3 ?_
                    refine q_aload_nF rfl rfl rfl ?_
                    refine q_iload rfl rfl rfl ?_
                    refine q_iconst rfl rfl ?_
                    refine q_iadd rfl rfl (q_tn (z := 4) rfl ?_)
                    refine q_ialdX (x := x4) rfl rfl rfl hx4 ?_
                    refine q_nV4 rfl rfl (Or.inl rfl) rfl rfl rfl (by decide) (FW_46 S hW) ⟨rfl, rfl⟩ rfl ?_
                    change PQ _ _ _ mm_X12_keep 0 [.ref 46, .int 0, .int 4, .int 0, .int x4, pm_un, pm_un] [] _ _ 0 0 _
                    refine q_aload_n rfl rfl rfl ?_
                    refine q_iload_n rfl rfl rfl ?_
                    refine q_nV1 rfl rfl (Or.inl rfl) rfl rfl rfl (by decide) (FW_46 S hW) ⟨rfl, rfl⟩ rfl ?_
                    change PQ _ _ _ mm_X12_isShelf 0 [.ref 46, .int 0] [] _ _ 0 0 _
                    refine q_aload_n rfl rfl rfl ?_
                    refine q_iload_n rfl rfl rfl ?_
                    refine q_iconst rfl rfl ?_
                    refine q_bipush rfl rfl ?_
                    refine q_nV3 rfl rfl (Or.inl rfl) rfl rfl rfl (by decide) (FW_46 S hW) ⟨rfl, rfl⟩ rfl ?_
                    change PQ _ _ _ mm_X12_in 0 [.ref 46, .int 0, .int 0, .int 7] [] _ _ 0 0 _
                    refine q_iload_n rfl rfl rfl ?_
                    refine q_iload_n rfl rfl rfl ?_
                    refine q_iclt rfl rfl (fun c349 => absurd c349 (by decide)) (fun c349 => ?_)
                    refine q_iload_n rfl rfl rfl ?_
                    refine q_iload_n rfl rfl rfl ?_
                    refine q_icgt rfl rfl (fun c350 => absurd c350 (by decide)) (fun c350 => ?_)
                    refine q_iconst rfl rfl ?_
                    refine q_goto rfl ?_
                    refine q_iret rfl rfl rfl ?_
                    refine ⟨_, rfl, ?_⟩
                    refine q_iret rfl rfl rfl ?_
                    refine ⟨_, rfl, ?_⟩
                    refine q_ifeq rfl rfl (fun c351 => absurd c351 (by decide)) (fun c351 => ?_)
                    refine q_iload_n rfl rfl rfl ?_
                    refine q_ifeq rfl rfl (fun c352 => absurd c352 (by decide)) (fun c352 => ?_)
                    refine q_iload_n rfl rfl rfl ?_
                    refine q_iconst rfl rfl ?_
                    refine q_iceq rfl rfl (fun c353 => absurd c353 (by decide)) (fun c353 => ?_)
                    refine q_iload_n rfl rfl rfl ?_
                    refine q_iconst rfl rfl ?_
                    refine q_icne rfl rfl (fun c354 => absurd c354 (by decide)) (fun c354 => ?_)
                    refine q_iload_n rfl rfl rfl ?_
                    refine q_iconst rfl rfl ?_
                    refine q_icne rfl rfl (fun c355 => ?_) (fun c355 => absurd (by decide) c355)
                    refine q_aload_n rfl rfl rfl ?_
                    refine q_iload_n rfl rfl rfl ?_
                    refine q_nV1 rfl rfl (Or.inl rfl) rfl rfl rfl (by decide) (FW_46 S hW) ⟨rfl, rfl⟩ rfl ?_
                    change PQ _ _ _ mm_X12_isHand 0 [.ref 46, .int 0] [] _ _ 0 0 _
                    refine q_aload_n rfl rfl rfl ?_
                    refine q_iload_n rfl rfl rfl ?_
                    refine q_iconst rfl rfl ?_
                    refine q_aload_n rfl rfl rfl ?_
                    refine q_getf rfl rfl (by decide) (FW_46 S hW) rfl ?_
                    refine q_iconst rfl rfl ?_
                    refine q_isub rfl rfl (q_tn (z := 0) rfl ?_)
                    refine q_nV3 rfl rfl (Or.inl rfl) rfl rfl rfl (by decide) (FW_46 S hW) ⟨rfl, rfl⟩ rfl ?_
                    change PQ _ _ _ mm_X12_in 0 [.ref 46, .int 0, .int 0, .int 0] [] _ _ 0 0 _
                    refine q_iload_n rfl rfl rfl ?_
                    refine q_iload_n rfl rfl rfl ?_
                    refine q_iclt rfl rfl (fun c356 => absurd c356 (by decide)) (fun c356 => ?_)
                    refine q_iload_n rfl rfl rfl ?_
                    refine q_iload_n rfl rfl rfl ?_
                    refine q_icgt rfl rfl (fun c357 => absurd c357 (by decide)) (fun c357 => ?_)
                    refine q_iconst rfl rfl ?_
                    refine q_goto rfl ?_
                    refine q_iret rfl rfl rfl ?_
                    refine ⟨_, rfl, ?_⟩
                    refine q_iret rfl rfl rfl ?_
                    refine ⟨_, rfl, ?_⟩
                    refine q_ifeq rfl rfl (fun c358 => absurd c358 (by decide)) (fun c358 => ?_)
                    refine q_iconst rfl rfl ?_
                    refine q_goto rfl ?_
                    refine q_ist5 rfl rfl rfl rfl ?_
                    refine q_iload rfl rfl rfl ?_
                    refine q_ifne rfl rfl (fun c359 => absurd c359 (by decide)) (fun c359 => ?_)
                    refine q_aload_n rfl rfl rfl ?_
                    refine q_getf rfl rfl (by decide) (FW_46 S hW) rfl ?_
                    refine q_iload_n rfl rfl rfl ?_
                    refine q_iload_n rfl rfl rfl ?_
                    refine q_iast rfl rfl (by decide) (FW_75 S hW) (by decide) ?_
                    refine q_aload_n rfl rfl rfl ?_
                    refine q_iload_n rfl rfl rfl ?_
                    refine q_cV1v rfl rfl (Or.inl rfl) rfl rfl rfl (by decide) (FW_46 S hW) ⟨rfl, rfl⟩ rfl (fun K' hK' => l_clear (D := 0) (by decide) rfl (by decide) (FW_46 S hW) rfl (FW_79 S hW) hK') ?_
                    refine q_iload_n rfl rfl rfl ?_
                    refine q_iconst rfl rfl ?_
                    refine q_icne rfl rfl (fun c360 => absurd c360 (by decide)) (fun c360 => ?_)
                    refine q_iload_n rfl rfl rfl ?_
                    refine q_iconst rfl rfl ?_
                    refine q_icne rfl rfl (fun c361 => absurd c361 (by decide)) (fun c361 => ?_)
                    refine q_iload_n rfl rfl rfl ?_
                    refine q_iconst rfl rfl ?_
                    refine q_icne rfl rfl (fun c362 => ?_) (fun c362 => absurd (by decide) c362)
                    refine q_aload_n rfl rfl rfl ?_
                    refine q_getf rfl rfl (by decide) (FW_46 S hW) rfl ?_
                    refine q_iload_n rfl rfl rfl ?_
                    refine q_aload_n rfl rfl rfl ?_
                    refine q_getf rfl rfl (by decide) (FW_46 S hW) rfl ?_
                    refine q_iload_n rfl rfl rfl ?_
                    refine q_iald rfl rfl (by decide) (FW_47 S hW) (by decide) (q_tn (z := 0) rfl ?_)
                    refine q_iast rfl rfl (by decide) (FW_78 S hW) (by decide) ?_
                    refine q_iconst rfl rfl ?_
                    refine q_ist6 rfl rfl rfl rfl ?_
                    refine q_iload rfl rfl rfl ?_
                    refine q_aload_n rfl rfl rfl ?_
                    refine q_getf rfl rfl (by decide) (FW_46 S hW) rfl ?_
                    refine q_iload_n rfl rfl rfl ?_
                    refine q_iald rfl rfl (by decide) (FW_47 S hW) (by decide) (q_tn (z := 0) rfl ?_)
                    refine q_icge rfl rfl (fun c363 => ?_) (fun c363 => absurd (by decide) c363)
                    refine q_iconst rfl rfl ?_
                    refine q_iret rfl rfl trivial ?_
                    refine ⟨_, rfl, ?_⟩
                    refine q_iceq rfl rfl (fun c364 => ?_) (fun c364 => absurd (by decide) c364)
                    refine q_icc4 (z := 6) rfl rfl rfl rfl rfl ?_
                    refine q_goto rfl ?_
                    refine q_iload rfl rfl rfl ?_
                    refine q_aload_nF rfl rfl rfl ?_
                    refine q_alenX (x := 6) rfl rfl rfl ?_
                    refine q_bipush rfl rfl ?_
                    refine q_isub rfl rfl (q_tn (z := 0) rfl ?_)
                    refine q_icgt rfl rfl (fun c365 => ?_) (fun c365 => absurd (by decide) c365)
                    refine q_iconst rfl rfl ?_
                    refine q_iret rfl rfl rfl ?_
                    exact hK _ _
                  · refine q_aast rfl rfl (by decide) (by decide) (FW_43 S hW) rfl rfl (by decide) ?_
                    refine q_iconst rfl rfl ?_
                    refine q_iret rfl rfl trivial ?_
                    refine ⟨_, rfl, ?_⟩
                    refine q_aload_n rfl rfl rfl ?_
                    refine q_aload_nF rfl rfl rfl ?_
                    refine q_iload rfl rfl rfl ?_
                    refine q_iconst rfl rfl ?_
                    refine q_iadd rfl rfl (q_tn (z := 1) rfl ?_)
                    refine q_ialdX (x := 1) rfl rfl rfl hx1 ?_
                    refine q_aload_nF rfl rfl rfl ?_
                    refine q_iload rfl rfl rfl ?_
                    refine q_iconst rfl rfl ?_
                    refine q_iadd rfl rfl (q_tn (z := 2) rfl ?_)
                    refine q_ialdX (x := 4) rfl rfl rfl hx2 ?_
                    refine q_aload_nF rfl rfl rfl ?_
                    refine q_iload rfl rfl rfl ?_
                    refine q_iconst rfl rfl ?_
                    refine q_iadd rfl rfl (q_tn (z := 3) rfl ?_)
                    refine q_ialdX (x := 0) rfl rfl rfl hx3 ?_
                    refine q_aload_nF rfl rfl rfl ?_
                    refine q_iload rfl rfl rfl ?_
                    refine q_iconst rfl rfl ?_
                    refine q_iadd rfl rfl (q_tn (z := 4) rfl ?_)
                    refine q_ialdX (x := x4) rfl rfl rfl hx4 ?_
                    refine q_nV4 rfl rfl (Or.inl rfl) rfl rfl rfl (by decide) (FW_46 S hW) ⟨rfl, rfl⟩ rfl ?_
                    change PQ _ _ _ mm_X12_keep 0 [.ref 46, .int 1, .int 4, .int 0, .int x4, pm_un, pm_un] [] _ _ 0 0 _
                    refine q_aload_n rfl rfl rfl ?_
                    refine q_iload_n rfl rfl rfl ?_
                    refine q_nV1 rfl rfl (Or.inl rfl) rfl rfl rfl (by decide) (FW_46 S hW) ⟨rfl, rfl⟩ rfl ?_
                    change PQ _ _ _ mm_X12_isShelf 0 [.ref 46, .int 1] [] _ _ 0 0 _
                    refine q_aload_n rfl rfl rfl ?_
                    refine q_iload_n rfl rfl rfl ?_
                    refine q_iconst rfl rfl ?_
                    refine q_bipush rfl rfl ?_
                    refine q_nV3 rfl rfl (Or.inl rfl) rfl rfl rfl (by decide) (FW_46 S hW) ⟨rfl, rfl⟩ rfl ?_
                    change PQ _ _ _ mm_X12_in 0 [.ref 46, .int 1, .int 0, .int 7] [] _ _ 0 0 _
                    refine q_iload_n rfl rfl rfl ?_
                    refine q_iload_n rfl rfl rfl ?_
                    refine q_iclt rfl rfl (fun c366 => absurd c366 (by decide)) (fun c366 => ?_)
                    refine q_iload_n rfl rfl rfl ?_
                    refine q_iload_n rfl rfl rfl ?_
                    refine q_icgt rfl rfl (fun c367 => absurd c367 (by decide)) (fun c367 => ?_)
                    refine q_iconst rfl rfl ?_
                    refine q_goto rfl ?_
                    refine q_iret rfl rfl rfl ?_
                    refine ⟨_, rfl, ?_⟩
                    refine q_iret rfl rfl rfl ?_
                    refine ⟨_, rfl, ?_⟩
                    refine q_ifeq rfl rfl (fun c368 => absurd c368 (by decide)) (fun c368 => ?_)
                    refine q_iload_n rfl rfl rfl ?_
                    refine q_ifeq rfl rfl (fun c369 => absurd c369 (by decide)) (fun c369 => ?_)
                    refine q_iload_n rfl rfl rfl ?_
                    refine q_iconst rfl rfl ?_
                    refine q_iceq rfl rfl (fun c370 => absurd c370 (by decide)) (fun c370 => ?_)
                    refine q_iload_n rfl rfl rfl ?_
                    refine q_iconst rfl rfl ?_
                    refine q_icne rfl rfl (fun c371 => absurd c371 (by decide)) (fun c371 => ?_)
                    refine q_iload_n rfl rfl rfl ?_
                    refine q_iconst rfl rfl ?_
                    refine q_icne rfl rfl (fun c372 => ?_) (fun c372 => absurd (by decide) c372)
                    refine q_aload_n rfl rfl rfl ?_
                    refine q_iload_n rfl rfl rfl ?_
                    refine q_nV1 rfl rfl (Or.inl rfl) rfl rfl rfl (by decide) (FW_46 S hW) ⟨rfl, rfl⟩ rfl ?_
                    change PQ _ _ _ mm_X12_isHand 0 [.ref 46, .int 0] [] _ _ 0 0 _
                    refine q_aload_n rfl rfl rfl ?_
                    refine q_iload_n rfl rfl rfl ?_
                    refine q_iconst rfl rfl ?_
                    refine q_aload_n rfl rfl rfl ?_
                    refine q_getf rfl rfl (by decide) (FW_46 S hW) rfl ?_
                    refine q_iconst rfl rfl ?_
                    refine q_isub rfl rfl (q_tn (z := 0) rfl ?_)
                    refine q_nV3 rfl rfl (Or.inl rfl) rfl rfl rfl (by decide) (FW_46 S hW) ⟨rfl, rfl⟩ rfl ?_
                    change PQ _ _ _ mm_X12_in 0 [.ref 46, .int 0, .int 0, .int 0] [] _ _ 0 0 _
                    refine q_iload_n rfl rfl rfl ?_
                    refine q_iload_n rfl rfl rfl ?_
                    refine q_iclt rfl rfl (fun c373 => absurd c373 (by decide)) (fun c373 => ?_)
                    refine q_iload_n rfl rfl rfl ?_
                    refine q_iload_n rfl rfl rfl ?_
                    refine q_icgt rfl rfl (fun c374 => absurd c374 (by decide)) (fun c374 => ?_)
                    refine q_iconst rfl rfl ?_
                    refine q_goto rfl ?_
                    refine q_iret rfl rfl rfl ?_
                    refine ⟨_, rfl, ?_⟩
                    refine q_iret rfl rfl rfl ?_
                    refine ⟨_, rfl, ?_⟩
                    refine q_ifeq rfl rfl (fun c375 => absurd c375 (by decide)) (fun c375 => ?_)
                    refine q_iconst rfl rfl ?_
                    refine q_goto rfl ?_
                    refine q_ist5 rfl rfl rfl rfl ?_
                    refine q_iload rfl rfl rfl ?_
                    refine q_ifne rfl rfl (fun c376 => absurd c376 (by decide)) (fun c376 => ?_)
                    refine q_aload_n rfl rfl rfl ?_
                    refine q_getf rfl rfl (by decide) (FW_46 S hW) rfl ?_
                    refine q_iload_n rfl rfl rfl ?_
                    refine q_iload_n rfl rfl rfl ?_
                    refine q_iast rfl rfl (by decide) (FW_75 S hW) (by decide) ?_
                    refine q_aload_n rfl rfl rfl ?_
                    refine q_iload_n rfl rfl rfl ?_
                    refine q_cV1v rfl rfl (Or.inl rfl) rfl rfl rfl (by decide) (FW_46 S hW) ⟨rfl, rfl⟩ rfl (fun K' hK' => l_clear (D := 1) (by decide) rfl (by decide) (FW_46 S hW) rfl (FW_79 S hW) hK') ?_
                    refine q_iload_n rfl rfl rfl ?_
                    refine q_iconst rfl rfl ?_
                    refine q_icne rfl rfl (fun c377 => absurd c377 (by decide)) (fun c377 => ?_)
                    refine q_iload_n rfl rfl rfl ?_
                    refine q_iconst rfl rfl ?_
                    refine q_icne rfl rfl (fun c378 => absurd c378 (by decide)) (fun c378 => ?_)
                    refine q_iload_n rfl rfl rfl ?_
                    refine q_iconst rfl rfl ?_
                    refine q_icne rfl rfl (fun c379 => ?_) (fun c379 => absurd (by decide) c379)
                    refine q_aload_n rfl rfl rfl ?_
                    refine q_getf rfl rfl (by decide) (FW_46 S hW) rfl ?_
                    refine q_iload_n rfl rfl rfl ?_
                    refine q_aload_n rfl rfl rfl ?_
                    refine q_getf rfl rfl (by decide) (FW_46 S hW) rfl ?_
                    refine q_iload_n rfl rfl rfl ?_
                    refine q_iald rfl rfl (by decide) (FW_47 S hW) (by decide) (q_tn (z := 0) rfl ?_)
                    refine q_iast rfl rfl (by decide) (FW_78 S hW) (by decide) ?_
                    refine q_iconst rfl rfl ?_
                    refine q_ist6 rfl rfl rfl rfl ?_
                    refine q_iload rfl rfl rfl ?_
                    refine q_aload_n rfl rfl rfl ?_
                    refine q_getf rfl rfl (by decide) (FW_46 S hW) rfl ?_
                    refine q_iload_n rfl rfl rfl ?_
                    refine q_iald rfl rfl (by decide) (FW_47 S hW) (by decide) (q_tn (z := 0) rfl ?_)
                    refine q_icge rfl rfl (fun c380 => ?_) (fun c380 => absurd (by decide) c380)
                    refine q_iconst rfl rfl ?_
                    refine q_iret rfl rfl trivial ?_
                    refine ⟨_, rfl, ?_⟩
                    refine q_iceq rfl rfl (fun c381 => ?_) (fun c381 => absurd (by decide) c381)
                    refine q_icc4 (z := 6) rfl rfl rfl rfl rfl ?_
                    refine q_goto rfl ?_
                    refine q_iload rfl rfl rfl ?_
                    refine q_aload_nF rfl rfl rfl ?_
                    refine q_alenX (x := 6) rfl rfl rfl ?_
                    refine q_bipush rfl rfl ?_
                    refine q_isub rfl rfl (q_tn (z := 0) rfl ?_)
                    refine q_icgt rfl rfl (fun c382 => ?_) (fun c382 => absurd (by decide) c382)
                    refine q_iconst rfl rfl ?_
                    refine q_iret rfl rfl rfl ?_
                    exact hK _ _
                  · refine q_aast rfl rfl (by decide) (by decide) (FW_43 S hW) rfl rfl (by decide) ?_
                    refine q_iconst rfl rfl ?_
                    refine q_iret rfl rfl trivial ?_
                    refine ⟨_, rfl, ?_⟩
                    refine q_aload_n rfl rfl rfl ?_
                    refine q_aload_nF rfl rfl rfl ?_
                    refine q_iload rfl rfl rfl ?_
                    refine q_iconst rfl rfl ?_
                    refine q_iadd rfl rfl (q_tn (z := 1) rfl ?_)
                    refine q_ialdX (x := 2) rfl rfl rfl hx1 ?_
                    refine q_aload_nF rfl rfl rfl ?_
                    refine q_iload rfl rfl rfl ?_
                    refine q_iconst rfl rfl ?_
                    refine q_iadd rfl rfl (q_tn (z := 2) rfl ?_)
                    refine q_ialdX (x := 4) rfl rfl rfl hx2 ?_
                    refine q_aload_nF rfl rfl rfl ?_
                    refine q_iload rfl rfl rfl ?_
                    refine q_iconst rfl rfl ?_
                    refine q_iadd rfl rfl (q_tn (z := 3) rfl ?_)
                    refine q_ialdX (x := 0) rfl rfl rfl hx3 ?_
                    refine q_aload_nF rfl rfl rfl ?_
                    refine q_iload rfl rfl rfl ?_
                    refine q_iconst rfl rfl ?_
                    refine q_iadd rfl rfl (q_tn (z := 4) rfl ?_)
                    refine q_ialdX (x := x4) rfl rfl rfl hx4 ?_
                    refine q_nV4 rfl rfl (Or.inl rfl) rfl rfl rfl (by decide) (FW_46 S hW) ⟨rfl, rfl⟩ rfl ?_
                    change PQ _ _ _ mm_X12_keep 0 [.ref 46, .int 2, .int 4, .int 0, .int x4, pm_un, pm_un] [] _ _ 0 0 _
                    refine q_aload_n rfl rfl rfl ?_
                    refine q_iload_n rfl rfl rfl ?_
                    refine q_nV1 rfl rfl (Or.inl rfl) rfl rfl rfl (by decide) (FW_46 S hW) ⟨rfl, rfl⟩ rfl ?_
                    change PQ _ _ _ mm_X12_isShelf 0 [.ref 46, .int 2] [] _ _ 0 0 _
                    refine q_aload_n rfl rfl rfl ?_
                    refine q_iload_n rfl rfl rfl ?_
                    refine q_iconst rfl rfl ?_
                    refine q_bipush rfl rfl ?_
                    refine q_nV3 rfl rfl (Or.inl rfl) rfl rfl rfl (by decide) (FW_46 S hW) ⟨rfl, rfl⟩ rfl ?_
                    change PQ _ _ _ mm_X12_in 0 [.ref 46, .int 2, .int 0, .int 7] [] _ _ 0 0 _
                    refine q_iload_n rfl rfl rfl ?_
                    refine q_iload_n rfl rfl rfl ?_
                    refine q_iclt rfl rfl (fun c383 => absurd c383 (by decide)) (fun c383 => ?_)
                    refine q_iload_n rfl rfl rfl ?_
                    refine q_iload_n rfl rfl rfl ?_
                    refine q_icgt rfl rfl (fun c384 => absurd c384 (by decide)) (fun c384 => ?_)
                    refine q_iconst rfl rfl ?_
                    refine q_goto rfl ?_
                    refine q_iret rfl rfl rfl ?_
                    refine ⟨_, rfl, ?_⟩
                    refine q_iret rfl rfl rfl ?_
                    refine ⟨_, rfl, ?_⟩
                    refine q_ifeq rfl rfl (fun c385 => absurd c385 (by decide)) (fun c385 => ?_)
                    refine q_iload_n rfl rfl rfl ?_
                    refine q_ifeq rfl rfl (fun c386 => absurd c386 (by decide)) (fun c386 => ?_)
                    refine q_iload_n rfl rfl rfl ?_
                    refine q_iconst rfl rfl ?_
                    refine q_iceq rfl rfl (fun c387 => absurd c387 (by decide)) (fun c387 => ?_)
                    refine q_iload_n rfl rfl rfl ?_
                    refine q_iconst rfl rfl ?_
                    refine q_icne rfl rfl (fun c388 => absurd c388 (by decide)) (fun c388 => ?_)
                    refine q_iload_n rfl rfl rfl ?_
                    refine q_iconst rfl rfl ?_
                    refine q_icne rfl rfl (fun c389 => ?_) (fun c389 => absurd (by decide) c389)
                    refine q_aload_n rfl rfl rfl ?_
                    refine q_iload_n rfl rfl rfl ?_
                    refine q_nV1 rfl rfl (Or.inl rfl) rfl rfl rfl (by decide) (FW_46 S hW) ⟨rfl, rfl⟩ rfl ?_
                    change PQ _ _ _ mm_X12_isHand 0 [.ref 46, .int 0] [] _ _ 0 0 _
                    refine q_aload_n rfl rfl rfl ?_
                    refine q_iload_n rfl rfl rfl ?_
                    refine q_iconst rfl rfl ?_
                    refine q_aload_n rfl rfl rfl ?_
                    refine q_getf rfl rfl (by decide) (FW_46 S hW) rfl ?_
                    refine q_iconst rfl rfl ?_
                    refine q_isub rfl rfl (q_tn (z := 0) rfl ?_)
                    refine q_nV3 rfl rfl (Or.inl rfl) rfl rfl rfl (by decide) (FW_46 S hW) ⟨rfl, rfl⟩ rfl ?_
                    change PQ _ _ _ mm_X12_in 0 [.ref 46, .int 0, .int 0, .int 0] [] _ _ 0 0 _
                    refine q_iload_n rfl rfl rfl ?_
                    refine q_iload_n rfl rfl rfl ?_
                    refine q_iclt rfl rfl (fun c390 => absurd c390 (by decide)) (fun c390 => ?_)
                    refine q_iload_n rfl rfl rfl ?_
                    refine q_iload_n rfl rfl rfl ?_
                    refine q_icgt rfl rfl (fun c391 => absurd c391 (by decide)) (fun c391 => ?_)
                    refine q_iconst rfl rfl ?_
                    refine q_goto rfl ?_
                    refine q_iret rfl rfl rfl ?_
                    refine ⟨_, rfl, ?_⟩
                    refine q_iret rfl rfl rfl ?_
                    refine ⟨_, rfl, ?_⟩
                    refine q_ifeq rfl rfl (fun c392 => absurd c392 (by decide)) (fun c392 => ?_)
                    refine q_iconst rfl rfl ?_
                    refine q_goto rfl ?_
                    refine q_ist5 rfl rfl rfl rfl ?_
                    refine q_iload rfl rfl rfl ?_
                    refine q_ifne rfl rfl (fun c393 => absurd c393 (by decide)) (fun c393 => ?_)
                    refine q_aload_n rfl rfl rfl ?_
                    refine q_getf rfl rfl (by decide) (FW_46 S hW) rfl ?_
                    refine q_iload_n rfl rfl rfl ?_
                    refine q_iload_n rfl rfl rfl ?_
                    refine q_iast rfl rfl (by decide) (FW_75 S hW) (by decide) ?_
                    refine q_aload_n rfl rfl rfl ?_
                    refine q_iload_n rfl rfl rfl ?_
                    refine q_cV1v rfl rfl (Or.inl rfl) rfl rfl rfl (by decide) (FW_46 S hW) ⟨rfl, rfl⟩ rfl (fun K' hK' => l_clear (D := 2) (by decide) rfl (by decide) (FW_46 S hW) rfl (FW_79 S hW) hK') ?_
                    refine q_iload_n rfl rfl rfl ?_
                    refine q_iconst rfl rfl ?_
                    refine q_icne rfl rfl (fun c394 => absurd c394 (by decide)) (fun c394 => ?_)
                    refine q_iload_n rfl rfl rfl ?_
                    refine q_iconst rfl rfl ?_
                    refine q_icne rfl rfl (fun c395 => absurd c395 (by decide)) (fun c395 => ?_)
                    refine q_iload_n rfl rfl rfl ?_
                    refine q_iconst rfl rfl ?_
                    refine q_icne rfl rfl (fun c396 => ?_) (fun c396 => absurd (by decide) c396)
                    refine q_aload_n rfl rfl rfl ?_
                    refine q_getf rfl rfl (by decide) (FW_46 S hW) rfl ?_
                    refine q_iload_n rfl rfl rfl ?_
                    refine q_aload_n rfl rfl rfl ?_
                    refine q_getf rfl rfl (by decide) (FW_46 S hW) rfl ?_
                    refine q_iload_n rfl rfl rfl ?_
                    refine q_iald rfl rfl (by decide) (FW_47 S hW) (by decide) (q_tn (z := 0) rfl ?_)
                    refine q_iast rfl rfl (by decide) (FW_78 S hW) (by decide) ?_
                    refine q_iconst rfl rfl ?_
                    refine q_ist6 rfl rfl rfl rfl ?_
                    refine q_iload rfl rfl rfl ?_
                    refine q_aload_n rfl rfl rfl ?_
                    refine q_getf rfl rfl (by decide) (FW_46 S hW) rfl ?_
                    refine q_iload_n rfl rfl rfl ?_
                    refine q_iald rfl rfl (by decide) (FW_47 S hW) (by decide) (q_tn (z := 0) rfl ?_)
                    refine q_icge rfl rfl (fun c397 => ?_) (fun c397 => absurd (by decide) c397)
                    refine q_iconst rfl rfl ?_
                    refine q_iret rfl rfl trivial ?_
                    refine ⟨_, rfl, ?_⟩
                    refine q_iceq rfl rfl (fun c398 => ?_) (fun c398 => absurd (by decide) c398)
                    refine q_icc4 (z := 6) rfl rfl rfl rfl rfl ?_
                    refine q_goto rfl ?_
                    refine q_iload rfl rfl rfl ?_
                    refine q_aload_nF rfl rfl rfl ?_
                    refine q_alenX (x := 6) rfl rfl rfl ?_
                    refine q_bipush rfl rfl ?_
                    refine q_isub rfl rfl (q_tn (z := 0) rfl ?_)
                    refine q_icgt rfl rfl (fun c399 => ?_) (fun c399 => absurd (by decide) c399)
                    refine q_iconst rfl rfl ?_
                    refine q_iret rfl rfl rfl ?_
                    exact hK _ _
                  · refine q_aast rfl rfl (by decide) (by decide) (FW_43 S hW) rfl rfl (by decide) ?_
                    refine q_iconst rfl rfl ?_
                    refine q_iret rfl rfl trivial ?_
                    refine ⟨_, rfl, ?_⟩
                    refine q_aload_n rfl rfl rfl ?_
                    refine q_aload_nF rfl rfl rfl ?_
                    refine q_iload rfl rfl rfl ?_
                    refine q_iconst rfl rfl ?_
                    refine q_iadd rfl rfl (q_tn (z := 1) rfl ?_)
                    refine q_ialdX (x := 3) rfl rfl rfl hx1 ?_
                    refine q_aload_nF rfl rfl rfl ?_
                    refine q_iload rfl rfl rfl ?_
                    refine q_iconst rfl rfl ?_
                    refine q_iadd rfl rfl (q_tn (z := 2) rfl ?_)
                    refine q_ialdX (x := 4) rfl rfl rfl hx2 ?_
                    refine q_aload_nF rfl rfl rfl ?_
                    refine q_iload rfl rfl rfl ?_
                    refine q_iconst rfl rfl ?_
                    refine q_iadd rfl rfl (q_tn (z := 3) rfl ?_)
                    refine q_ialdX (x := 0) rfl rfl rfl hx3 ?_
                    refine q_aload_nF rfl rfl rfl ?_
                    refine q_iload rfl rfl rfl ?_
                    refine q_iconst rfl rfl ?_
                    refine q_iadd rfl rfl (q_tn (z := 4) rfl ?_)
                    refine q_ialdX (x := x4) rfl rfl rfl hx4 ?_
                    refine q_nV4 rfl rfl (Or.inl rfl) rfl rfl rfl (by decide) (FW_46 S hW) ⟨rfl, rfl⟩ rfl ?_
                    change PQ _ _ _ mm_X12_keep 0 [.ref 46, .int 3, .int 4, .int 0, .int x4, pm_un, pm_un] [] _ _ 0 0 _
                    refine q_aload_n rfl rfl rfl ?_
                    refine q_iload_n rfl rfl rfl ?_
                    refine q_nV1 rfl rfl (Or.inl rfl) rfl rfl rfl (by decide) (FW_46 S hW) ⟨rfl, rfl⟩ rfl ?_
                    change PQ _ _ _ mm_X12_isShelf 0 [.ref 46, .int 3] [] _ _ 0 0 _
                    refine q_aload_n rfl rfl rfl ?_
                    refine q_iload_n rfl rfl rfl ?_
                    refine q_iconst rfl rfl ?_
                    refine q_bipush rfl rfl ?_
                    refine q_nV3 rfl rfl (Or.inl rfl) rfl rfl rfl (by decide) (FW_46 S hW) ⟨rfl, rfl⟩ rfl ?_
                    change PQ _ _ _ mm_X12_in 0 [.ref 46, .int 3, .int 0, .int 7] [] _ _ 0 0 _
                    refine q_iload_n rfl rfl rfl ?_
                    refine q_iload_n rfl rfl rfl ?_
                    refine q_iclt rfl rfl (fun c400 => absurd c400 (by decide)) (fun c400 => ?_)
                    refine q_iload_n rfl rfl rfl ?_
                    refine q_iload_n rfl rfl rfl ?_
                    refine q_icgt rfl rfl (fun c401 => absurd c401 (by decide)) (fun c401 => ?_)
                    refine q_iconst rfl rfl ?_
                    refine q_goto rfl ?_
                    refine q_iret rfl rfl rfl ?_
                    refine ⟨_, rfl, ?_⟩
                    refine q_iret rfl rfl rfl ?_
                    refine ⟨_, rfl, ?_⟩
                    refine q_ifeq rfl rfl (fun c402 => absurd c402 (by decide)) (fun c402 => ?_)
                    refine q_iload_n rfl rfl rfl ?_
                    refine q_ifeq rfl rfl (fun c403 => absurd c403 (by decide)) (fun c403 => ?_)
                    refine q_iload_n rfl rfl rfl ?_
                    refine q_iconst rfl rfl ?_
                    refine q_iceq rfl rfl (fun c404 => absurd c404 (by decide)) (fun c404 => ?_)
                    refine q_iload_n rfl rfl rfl ?_
                    refine q_iconst rfl rfl ?_
                    refine q_icne rfl rfl (fun c405 => absurd c405 (by decide)) (fun c405 => ?_)
                    refine q_iload_n rfl rfl rfl ?_
                    refine q_iconst rfl rfl ?_
                    refine q_icne rfl rfl (fun c406 => ?_) (fun c406 => absurd (by decide) c406)
                    refine q_aload_n rfl rfl rfl ?_
                    refine q_iload_n rfl rfl rfl ?_
                    refine q_nV1 rfl rfl (Or.inl rfl) rfl rfl rfl (by decide) (FW_46 S hW) ⟨rfl, rfl⟩ rfl ?_
                    change PQ _ _ _ mm_X12_isHand 0 [.ref 46, .int 0] [] _ _ 0 0 _
                    refine q_aload_n rfl rfl rfl ?_
                    refine q_iload_n rfl rfl rfl ?_
                    refine q_iconst rfl rfl ?_
                    refine q_aload_n rfl rfl rfl ?_
                    refine q_getf rfl rfl (by decide) (FW_46 S hW) rfl ?_
                    refine q_iconst rfl rfl ?_
                    refine q_isub rfl rfl (q_tn (z := 0) rfl ?_)
                    refine q_nV3 rfl rfl (Or.inl rfl) rfl rfl rfl (by decide) (FW_46 S hW) ⟨rfl, rfl⟩ rfl ?_
                    change PQ _ _ _ mm_X12_in 0 [.ref 46, .int 0, .int 0, .int 0] [] _ _ 0 0 _
                    refine q_iload_n rfl rfl rfl ?_
                    refine q_iload_n rfl rfl rfl ?_
                    refine q_iclt rfl rfl (fun c407 => absurd c407 (by decide)) (fun c407 => ?_)
                    refine q_iload_n rfl rfl rfl ?_
                    refine q_iload_n rfl rfl rfl ?_
                    refine q_icgt rfl rfl (fun c408 => absurd c408 (by decide)) (fun c408 => ?_)
                    refine q_iconst rfl rfl ?_
                    refine q_goto rfl ?_
                    refine q_iret rfl rfl rfl ?_
                    refine ⟨_, rfl, ?_⟩
                    refine q_iret rfl rfl rfl ?_
                    refine ⟨_, rfl, ?_⟩
                    refine q_ifeq rfl rfl (fun c409 => absurd c409 (by decide)) (fun c409 => ?_)
                    refine q_iconst rfl rfl ?_
                    refine q_goto rfl ?_
                    refine q_ist5 rfl rfl rfl rfl ?_
                    refine q_iload rfl rfl rfl ?_
                    refine q_ifne rfl rfl (fun c410 => absurd c410 (by decide)) (fun c410 => ?_)
                    refine q_aload_n rfl rfl rfl ?_
                    refine q_getf rfl rfl (by decide) (FW_46 S hW) rfl ?_
                    refine q_iload_n rfl rfl rfl ?_
                    refine q_iload_n rfl rfl rfl ?_
                    refine q_iast rfl rfl (by decide) (FW_75 S hW) (by decide) ?_
                    refine q_aload_n rfl rfl rfl ?_
                    refine q_iload_n rfl rfl rfl ?_
                    refine q_cV1v rfl rfl (Or.inl rfl) rfl rfl rfl (by decide) (FW_46 S hW) ⟨rfl, rfl⟩ rfl (fun K' hK' => l_clear (D := 3) (by decide) rfl (by decide) (FW_46 S hW) rfl (FW_79 S hW) hK') ?_
                    refine q_iload_n rfl rfl rfl ?_
                    refine q_iconst rfl rfl ?_
                    refine q_icne rfl rfl (fun c411 => absurd c411 (by decide)) (fun c411 => ?_)
                    refine q_iload_n rfl rfl rfl ?_
                    refine q_iconst rfl rfl ?_
                    refine q_icne rfl rfl (fun c412 => absurd c412 (by decide)) (fun c412 => ?_)
                    refine q_iload_n rfl rfl rfl ?_
                    refine q_iconst rfl rfl ?_
                    refine q_icne rfl rfl (fun c413 => ?_) (fun c413 => absurd (by decide) c413)
                    refine q_aload_n rfl rfl rfl ?_
                    refine q_getf rfl rfl (by decide) (FW_46 S hW) rfl ?_
                    refine q_iload_n rfl rfl rfl ?_
                    refine q_aload_n rfl rfl rfl ?_
                    refine q_getf rfl rfl (by decide) (FW_46 S hW) rfl ?_
                    refine q_iload_n rfl rfl rfl ?_
                    refine q_iald rfl rfl (by decide) (FW_47 S hW) (by decide) (q_tn (z := 0) rfl ?_)
                    refine q_iast rfl rfl (by decide) (FW_78 S hW) (by decide) ?_
                    refine q_iconst rfl rfl ?_
                    refine q_ist6 rfl rfl rfl rfl ?_
                    refine q_iload rfl rfl rfl ?_
                    refine q_aload_n rfl rfl rfl ?_
                    refine q_getf rfl rfl (by decide) (FW_46 S hW) rfl ?_
                    refine q_iload_n rfl rfl rfl ?_
                    refine q_iald rfl rfl (by decide) (FW_47 S hW) (by decide) (q_tn (z := 0) rfl ?_)
                    refine q_icge rfl rfl (fun c414 => ?_) (fun c414 => absurd (by decide) c414)
                    refine q_iconst rfl rfl ?_
                    refine q_iret rfl rfl trivial ?_
                    refine ⟨_, rfl, ?_⟩
                    refine q_iceq rfl rfl (fun c415 => ?_) (fun c415 => absurd (by decide) c415)
                    refine q_icc4 (z := 6) rfl rfl rfl rfl rfl ?_
                    refine q_goto rfl ?_
                    refine q_iload rfl rfl rfl ?_
                    refine q_aload_nF rfl rfl rfl ?_
                    refine q_alenX (x := 6) rfl rfl rfl ?_
                    refine q_bipush rfl rfl ?_
                    refine q_isub rfl rfl (q_tn (z := 0) rfl ?_)
                    refine q_icgt rfl rfl (fun c416 => ?_) (fun c416 => absurd (by decide) c416)
                    refine q_iconst rfl rfl ?_
                    refine q_iret rfl rfl rfl ?_
                    exact hK _ _
                  · refine q_aast rfl rfl (by decide) (by decide) (FW_43 S hW) rfl rfl (by decide) ?_
                    refine q_iconst rfl rfl ?_
                    refine q_iret rfl rfl trivial ?_
                    refine ⟨_, rfl, ?_⟩
                    refine q_aload_n rfl rfl rfl ?_
                    refine q_aload_nF rfl rfl rfl ?_
                    refine q_iload rfl rfl rfl ?_
                    refine q_iconst rfl rfl ?_
                    refine q_iadd rfl rfl (q_tn (z := 1) rfl ?_)
                    refine q_ialdX (x := 4) rfl rfl rfl hx1 ?_
                    refine q_aload_nF rfl rfl rfl ?_
                    refine q_iload rfl rfl rfl ?_
                    refine q_iconst rfl rfl ?_
                    refine q_iadd rfl rfl (q_tn (z := 2) rfl ?_)
                    refine q_ialdX (x := 4) rfl rfl rfl hx2 ?_
                    refine q_aload_nF rfl rfl rfl ?_
                    refine q_iload rfl rfl rfl ?_
                    refine q_iconst rfl rfl ?_
                    refine q_iadd rfl rfl (q_tn (z := 3) rfl ?_)
                    refine q_ialdX (x := 0) rfl rfl rfl hx3 ?_
                    refine q_aload_nF rfl rfl rfl ?_
                    refine q_iload rfl rfl rfl ?_
                    refine q_iconst rfl rfl ?_
                    refine q_iadd rfl rfl (q_tn (z := 4) rfl ?_)
                    refine q_ialdX (x := x4) rfl rfl rfl hx4 ?_
                    refine q_nV4 rfl rfl (Or.inl rfl) rfl rfl rfl (by decide) (FW_46 S hW) ⟨rfl, rfl⟩ rfl ?_
                    change PQ _ _ _ mm_X12_keep 0 [.ref 46, .int 4, .int 4, .int 0, .int x4, pm_un, pm_un] [] _ _ 0 0 _
                    refine q_aload_n rfl rfl rfl ?_
                    refine q_iload_n rfl rfl rfl ?_
                    refine q_nV1 rfl rfl (Or.inl rfl) rfl rfl rfl (by decide) (FW_46 S hW) ⟨rfl, rfl⟩ rfl ?_
                    change PQ _ _ _ mm_X12_isShelf 0 [.ref 46, .int 4] [] _ _ 0 0 _
                    refine q_aload_n rfl rfl rfl ?_
                    refine q_iload_n rfl rfl rfl ?_
                    refine q_iconst rfl rfl ?_
                    refine q_bipush rfl rfl ?_
                    refine q_nV3 rfl rfl (Or.inl rfl) rfl rfl rfl (by decide) (FW_46 S hW) ⟨rfl, rfl⟩ rfl ?_
                    change PQ _ _ _ mm_X12_in 0 [.ref 46, .int 4, .int 0, .int 7] [] _ _ 0 0 _
                    refine q_iload_n rfl rfl rfl ?_
                    refine q_iload_n rfl rfl rfl ?_
                    refine q_iclt rfl rfl (fun c417 => absurd c417 (by decide)) (fun c417 => ?_)
                    refine q_iload_n rfl rfl rfl ?_
                    refine q_iload_n rfl rfl rfl ?_
                    refine q_icgt rfl rfl (fun c418 => absurd c418 (by decide)) (fun c418 => ?_)
                    refine q_iconst rfl rfl ?_
                    refine q_goto rfl ?_
                    refine q_iret rfl rfl rfl ?_
                    refine ⟨_, rfl, ?_⟩
                    refine q_iret rfl rfl rfl ?_
                    refine ⟨_, rfl, ?_⟩
                    refine q_ifeq rfl rfl (fun c419 => absurd c419 (by decide)) (fun c419 => ?_)
                    refine q_iload_n rfl rfl rfl ?_
                    refine q_ifeq rfl rfl (fun c420 => absurd c420 (by decide)) (fun c420 => ?_)
                    refine q_iload_n rfl rfl rfl ?_
                    refine q_iconst rfl rfl ?_
                    refine q_iceq rfl rfl (fun c421 => absurd c421 (by decide)) (fun c421 => ?_)
                    refine q_iload_n rfl rfl rfl ?_
                    refine q_iconst rfl rfl ?_
                    refine q_icne rfl rfl (fun c422 => absurd c422 (by decide)) (fun c422 => ?_)
                    refine q_iload_n rfl rfl rfl ?_
                    refine q_iconst rfl rfl ?_
                    refine q_icne rfl rfl (fun c423 => ?_) (fun c423 => absurd (by decide) c423)
                    refine q_aload_n rfl rfl rfl ?_
                    refine q_iload_n rfl rfl rfl ?_
                    refine q_nV1 rfl rfl (Or.inl rfl) rfl rfl rfl (by decide) (FW_46 S hW) ⟨rfl, rfl⟩ rfl ?_
                    change PQ _ _ _ mm_X12_isHand 0 [.ref 46, .int 0] [] _ _ 0 0 _
                    refine q_aload_n rfl rfl rfl ?_
                    refine q_iload_n rfl rfl rfl ?_
                    refine q_iconst rfl rfl ?_
                    refine q_aload_n rfl rfl rfl ?_
                    refine q_getf rfl rfl (by decide) (FW_46 S hW) rfl ?_
                    refine q_iconst rfl rfl ?_
                    refine q_isub rfl rfl (q_tn (z := 0) rfl ?_)
                    refine q_nV3 rfl rfl (Or.inl rfl) rfl rfl rfl (by decide) (FW_46 S hW) ⟨rfl, rfl⟩ rfl ?_
                    change PQ _ _ _ mm_X12_in 0 [.ref 46, .int 0, .int 0, .int 0] [] _ _ 0 0 _
                    refine q_iload_n rfl rfl rfl ?_
                    refine q_iload_n rfl rfl rfl ?_
                    refine q_iclt rfl rfl (fun c424 => absurd c424 (by decide)) (fun c424 => ?_)
                    refine q_iload_n rfl rfl rfl ?_
                    refine q_iload_n rfl rfl rfl ?_
                    refine q_icgt rfl rfl (fun c425 => absurd c425 (by decide)) (fun c425 => ?_)
                    refine q_iconst rfl rfl ?_
                    refine q_goto rfl ?_
                    refine q_iret rfl rfl rfl ?_
                    refine ⟨_, rfl, ?_⟩
                    refine q_iret rfl rfl rfl ?_
                    refine ⟨_, rfl, ?_⟩
                    refine q_ifeq rfl rfl (fun c426 => absurd c426 (by decide)) (fun c426 => ?_)
                    refine q_iconst rfl rfl ?_
                    refine q_goto rfl ?_
                    refine q_ist5 rfl rfl rfl rfl ?_
                    refine q_iload rfl rfl rfl ?_
                    refine q_ifne rfl rfl (fun c427 => absurd c427 (by decide)) (fun c427 => ?_)
                    refine q_aload_n rfl rfl rfl ?_
                    refine q_getf rfl rfl (by decide) (FW_46 S hW) rfl ?_
                    refine q_iload_n rfl rfl rfl ?_
                    refine q_iload_n rfl rfl rfl ?_
                    refine q_iast rfl rfl (by decide) (FW_75 S hW) (by decide) ?_
                    refine q_aload_n rfl rfl rfl ?_
                    refine q_iload_n rfl rfl rfl ?_
                    refine q_cV1v rfl rfl (Or.inl rfl) rfl rfl rfl (by decide) (FW_46 S hW) ⟨rfl, rfl⟩ rfl (fun K' hK' => l_clear (D := 4) (by decide) rfl (by decide) (FW_46 S hW) rfl (FW_79 S hW) hK') ?_
                    refine q_iload_n rfl rfl rfl ?_
                    refine q_iconst rfl rfl ?_
                    refine q_icne rfl rfl (fun c428 => absurd c428 (by decide)) (fun c428 => ?_)
                    refine q_iload_n rfl rfl rfl ?_
                    refine q_iconst rfl rfl ?_
                    refine q_icne rfl rfl (fun c429 => absurd c429 (by decide)) (fun c429 => ?_)
                    refine q_iload_n rfl rfl rfl ?_
                    refine q_iconst rfl rfl ?_
                    refine q_icne rfl rfl (fun c430 => ?_) (fun c430 => absurd (by decide) c430)
                    refine q_aload_n rfl rfl rfl ?_
                    refine q_getf rfl rfl (by decide) (FW_46 S hW) rfl ?_
                    refine q_iload_n rfl rfl rfl ?_
                    refine q_aload_n rfl rfl rfl ?_
                    refine q_getf rfl rfl (by decide) (FW_46 S hW) rfl ?_
                    refine q_iload_n rfl rfl rfl ?_
                    refine q_iald rfl rfl (by decide) (FW_47 S hW) (by decide) (q_tn (z := 0) rfl ?_)
                    refine q_iast rfl rfl (by decide) (FW_78 S hW) (by decide) ?_
                    refine q_iconst rfl rfl ?_
                    refine q_ist6 rfl rfl rfl rfl ?_
                    refine q_iload rfl rfl rfl ?_
                    refine q_aload_n rfl rfl rfl ?_
                    refine q_getf rfl rfl (by decide) (FW_46 S hW) rfl ?_
                    refine q_iload_n rfl rfl rfl ?_
                    refine q_iald rfl rfl (by decide) (FW_47 S hW) (by decide) (q_tn (z := 0) rfl ?_)
                    refine q_icge rfl rfl (fun c431 => ?_) (fun c431 => absurd (by decide) c431)
                    refine q_iconst rfl rfl ?_
                    refine q_iret rfl rfl trivial ?_
                    refine ⟨_, rfl, ?_⟩
                    refine q_iceq rfl rfl (fun c432 => ?_) (fun c432 => absurd (by decide) c432)
                    refine q_icc4 (z := 6) rfl rfl rfl rfl rfl ?_
                    refine q_goto rfl ?_
                    refine q_iload rfl rfl rfl ?_
                    refine q_aload_nF rfl rfl rfl ?_
                    refine q_alenX (x := 6) rfl rfl rfl ?_
                    refine q_bipush rfl rfl ?_
                    refine q_isub rfl rfl (q_tn (z := 0) rfl ?_)
                    refine q_icgt rfl rfl (fun c433 => ?_) (fun c433 => absurd (by decide) c433)
                    refine q_iconst rfl rfl ?_
                    refine q_iret rfl rfl rfl ?_
                    exact hK _ _
                  · refine q_aast rfl rfl (by decide) (by decide) (FW_43 S hW) rfl rfl (by decide) ?_
                    refine q_iconst rfl rfl ?_
                    refine q_iret rfl rfl trivial ?_
                    refine ⟨_, rfl, ?_⟩
                    refine q_aload_n rfl rfl rfl ?_
                    refine q_aload_nF rfl rfl rfl ?_
                    refine q_iload rfl rfl rfl ?_
                    refine q_iconst rfl rfl ?_
                    refine q_iadd rfl rfl (q_tn (z := 1) rfl ?_)
                    refine q_ialdX (x := 5) rfl rfl rfl hx1 ?_
                    refine q_aload_nF rfl rfl rfl ?_
                    refine q_iload rfl rfl rfl ?_
                    refine q_iconst rfl rfl ?_
                    refine q_iadd rfl rfl (q_tn (z := 2) rfl ?_)
                    refine q_ialdX (x := 4) rfl rfl rfl hx2 ?_
                    refine q_aload_nF rfl rfl rfl ?_
                    refine q_iload rfl rfl rfl ?_
                    refine q_iconst rfl rfl ?_
                    refine q_iadd rfl rfl (q_tn (z := 3) rfl ?_)
                    refine q_ialdX (x := 0) rfl rfl rfl hx3 ?_
                    refine q_aload_nF rfl rfl rfl ?_
                    refine q_iload rfl rfl rfl ?_
                    refine q_iconst rfl rfl ?_
                    refine q_iadd rfl rfl (q_tn (z := 4) rfl ?_)
                    refine q_ialdX (x := x4) rfl rfl rfl hx4 ?_
                    refine q_nV4 rfl rfl (Or.inl rfl) rfl rfl rfl (by decide) (FW_46 S hW) ⟨rfl, rfl⟩ rfl ?_
                    change PQ _ _ _ mm_X12_keep 0 [.ref 46, .int 5, .int 4, .int 0, .int x4, pm_un, pm_un] [] _ _ 0 0 _
                    refine q_aload_n rfl rfl rfl ?_
                    refine q_iload_n rfl rfl rfl ?_
                    refine q_nV1 rfl rfl (Or.inl rfl) rfl rfl rfl (by decide) (FW_46 S hW) ⟨rfl, rfl⟩ rfl ?_
                    change PQ _ _ _ mm_X12_isShelf 0 [.ref 46, .int 5] [] _ _ 0 0 _
                    refine q_aload_n rfl rfl rfl ?_
                    refine q_iload_n rfl rfl rfl ?_
                    refine q_iconst rfl rfl ?_
                    refine q_bipush rfl rfl ?_
                    refine q_nV3 rfl rfl (Or.inl rfl) rfl rfl rfl (by decide) (FW_46 S hW) ⟨rfl, rfl⟩ rfl ?_
                    change PQ _ _ _ mm_X12_in 0 [.ref 46, .int 5, .int 0, .int 7] [] _ _ 0 0 _
                    refine q_iload_n rfl rfl rfl ?_
                    refine q_iload_n rfl rfl rfl ?_
                    refine q_iclt rfl rfl (fun c434 => absurd c434 (by decide)) (fun c434 => ?_)
                    refine q_iload_n rfl rfl rfl ?_
                    refine q_iload_n rfl rfl rfl ?_
                    refine q_icgt rfl rfl (fun c435 => absurd c435 (by decide)) (fun c435 => ?_)
                    refine q_iconst rfl rfl ?_
                    refine q_goto rfl ?_
                    refine q_iret rfl rfl rfl ?_
                    refine ⟨_, rfl, ?_⟩
                    refine q_iret rfl rfl rfl ?_
                    refine ⟨_, rfl, ?_⟩
                    refine q_ifeq rfl rfl (fun c436 => absurd c436 (by decide)) (fun c436 => ?_)
                    refine q_iload_n rfl rfl rfl ?_
                    refine q_ifeq rfl rfl (fun c437 => absurd c437 (by decide)) (fun c437 => ?_)
                    refine q_iload_n rfl rfl rfl ?_
                    refine q_iconst rfl rfl ?_
                    refine q_iceq rfl rfl (fun c438 => absurd c438 (by decide)) (fun c438 => ?_)
                    refine q_iload_n rfl rfl rfl ?_
                    refine q_iconst rfl rfl ?_
                    refine q_icne rfl rfl (fun c439 => absurd c439 (by decide)) (fun c439 => ?_)
                    refine q_iload_n rfl rfl rfl ?_
                    refine q_iconst rfl rfl ?_
                    refine q_icne rfl rfl (fun c440 => ?_) (fun c440 => absurd (by decide) c440)
                    refine q_aload_n rfl rfl rfl ?_
                    refine q_iload_n rfl rfl rfl ?_
                    refine q_nV1 rfl rfl (Or.inl rfl) rfl rfl rfl (by decide) (FW_46 S hW) ⟨rfl, rfl⟩ rfl ?_
                    change PQ _ _ _ mm_X12_isHand 0 [.ref 46, .int 0] [] _ _ 0 0 _
                    refine q_aload_n rfl rfl rfl ?_
                    refine q_iload_n rfl rfl rfl ?_
                    refine q_iconst rfl rfl ?_
                    refine q_aload_n rfl rfl rfl ?_
                    refine q_getf rfl rfl (by decide) (FW_46 S hW) rfl ?_
                    refine q_iconst rfl rfl ?_
                    refine q_isub rfl rfl (q_tn (z := 0) rfl ?_)
                    refine q_nV3 rfl rfl (Or.inl rfl) rfl rfl rfl (by decide) (FW_46 S hW) ⟨rfl, rfl⟩ rfl ?_
                    change PQ _ _ _ mm_X12_in 0 [.ref 46, .int 0, .int 0, .int 0] [] _ _ 0 0 _
                    refine q_iload_n rfl rfl rfl ?_
                    refine q_iload_n rfl rfl rfl ?_
                    refine q_iclt rfl rfl (fun c441 => absurd c441 (by decide)) (fun c441 => ?_)
                    refine q_iload_n rfl rfl rfl ?_
                    refine q_iload_n rfl rfl rfl ?_
                    refine q_icgt rfl rfl (fun c442 => absurd c442 (by decide)) (fun c442 => ?_)
                    refine q_iconst rfl rfl ?_
                    refine q_goto rfl ?_
                    refine q_iret rfl rfl rfl ?_
                    refine ⟨_, rfl, ?_⟩
                    refine q_iret rfl rfl rfl ?_
                    refine ⟨_, rfl, ?_⟩
                    refine q_ifeq rfl rfl (fun c443 => absurd c443 (by decide)) (fun c443 => ?_)
                    refine q_iconst rfl rfl ?_
                    refine q_goto rfl ?_
                    refine q_ist5 rfl rfl rfl rfl ?_
                    refine q_iload rfl rfl rfl ?_
                    refine q_ifne rfl rfl (fun c444 => absurd c444 (by decide)) (fun c444 => ?_)
                    refine q_aload_n rfl rfl rfl ?_
                    refine q_getf rfl rfl (by decide) (FW_46 S hW) rfl ?_
                    refine q_iload_n rfl rfl rfl ?_
                    refine q_iload_n rfl rfl rfl ?_
                    refine q_iast rfl rfl (by decide) (FW_75 S hW) (by decide) ?_
                    refine q_aload_n rfl rfl rfl ?_
                    refine q_iload_n rfl rfl rfl ?_
                    refine q_cV1v rfl rfl (Or.inl rfl) rfl rfl rfl (by decide) (FW_46 S hW) ⟨rfl, rfl⟩ rfl (fun K' hK' => l_clear (D := 5) (by decide) rfl (by decide) (FW_46 S hW) rfl (FW_79 S hW) hK') ?_
                    refine q_iload_n rfl rfl rfl ?_
                    refine q_iconst rfl rfl ?_
                    refine q_icne rfl rfl (fun c445 => absurd c445 (by decide)) (fun c445 => ?_)
                    refine q_iload_n rfl rfl rfl ?_
                    refine q_iconst rfl rfl ?_
                    refine q_icne rfl rfl (fun c446 => absurd c446 (by decide)) (fun c446 => ?_)
                    refine q_iload_n rfl rfl rfl ?_
                    refine q_iconst rfl rfl ?_
                    refine q_icne rfl rfl (fun c447 => ?_) (fun c447 => absurd (by decide) c447)
                    refine q_aload_n rfl rfl rfl ?_
                    refine q_getf rfl rfl (by decide) (FW_46 S hW) rfl ?_
                    refine q_iload_n rfl rfl rfl ?_
                    refine q_aload_n rfl rfl rfl ?_
                    refine q_getf rfl rfl (by decide) (FW_46 S hW) rfl ?_
                    refine q_iload_n rfl rfl rfl ?_
                    refine q_iald rfl rfl (by decide) (FW_47 S hW) (by decide) (q_tn (z := 0) rfl ?_)
                    refine q_iast rfl rfl (by decide) (FW_78 S hW) (by decide) ?_
                    refine q_iconst rfl rfl ?_
                    refine q_ist6 rfl rfl rfl rfl ?_
                    refine q_iload rfl rfl rfl ?_
                    refine q_aload_n rfl rfl rfl ?_
                    refine q_getf rfl rfl (by decide) (FW_46 S hW) rfl ?_
                    refine q_iload_n rfl rfl rfl ?_
                    refine q_iald rfl rfl (by decide) (FW_47 S hW) (by decide) (q_tn (z := 0) rfl ?_)
                    refine q_icge rfl rfl (fun c448 => ?_) (fun c448 => absurd (by decide) c448)
                    refine q_iconst rfl rfl ?_
                    refine q_iret rfl rfl trivial ?_
                    refine ⟨_, rfl, ?_⟩
                    refine q_iceq rfl rfl (fun c449 => ?_) (fun c449 => absurd (by decide) c449)
                    refine q_icc4 (z := 6) rfl rfl rfl rfl rfl ?_
                    refine q_goto rfl ?_
                    refine q_iload rfl rfl rfl ?_
                    refine q_aload_nF rfl rfl rfl ?_
                    refine q_alenX (x := 6) rfl rfl rfl ?_
                    refine q_bipush rfl rfl ?_
                    refine q_isub rfl rfl (q_tn (z := 0) rfl ?_)
                    refine q_icgt rfl rfl (fun c450 => ?_) (fun c450 => absurd (by decide) c450)
                    refine q_iconst rfl rfl ?_
                    refine q_iret rfl rfl rfl ?_
                    exact hK _ _
                  · refine q_aast rfl rfl (by decide) (by decide) (FW_43 S hW) rfl rfl (by decide) ?_
                    refine q_iconst rfl rfl ?_
                    refine q_iret rfl rfl trivial ?_
                    refine ⟨_, rfl, ?_⟩
                    refine q_aload_n rfl rfl rfl ?_
                    refine q_aload_nF rfl rfl rfl ?_
                    refine q_iload rfl rfl rfl ?_
                    refine q_iconst rfl rfl ?_
                    refine q_iadd rfl rfl (q_tn (z := 1) rfl ?_)
                    refine q_ialdX (x := 6) rfl rfl rfl hx1 ?_
                    refine q_aload_nF rfl rfl rfl ?_
                    refine q_iload rfl rfl rfl ?_
                    refine q_iconst rfl rfl ?_
                    refine q_iadd rfl rfl (q_tn (z := 2) rfl ?_)
                    refine q_ialdX (x := 4) rfl rfl rfl hx2 ?_
                    refine q_aload_nF rfl rfl rfl ?_
                    refine q_iload rfl rfl rfl ?_
                    refine q_iconst rfl rfl ?_
                    refine q_iadd rfl rfl (q_tn (z := 3) rfl ?_)
                    refine q_ialdX (x := 0) rfl rfl rfl hx3 ?_
                    refine q_aload_nF rfl rfl rfl ?_
                    refine q_iload rfl rfl rfl ?_
                    refine q_iconst rfl rfl ?_
                    refine q_iadd rfl rfl (q_tn (z := 4) rfl ?_)
                    refine q_ialdX (x := x4) rfl rfl rfl hx4 ?_
                    refine q_nV4 rfl rfl (Or.inl rfl) rfl rfl rfl (by decide) (FW_46 S hW) ⟨rfl, rfl⟩ rfl ?_
                    change PQ _ _ _ mm_X12_keep 0 [.ref 46, .int 6, .int 4, .int 0, .int x4, pm_un, pm_un] [] _ _ 0 0 _
                    refine q_aload_n rfl rfl rfl ?_
                    refine q_iload_n rfl rfl rfl ?_
                    refine q_nV1 rfl rfl (Or.inl rfl) rfl rfl rfl (by decide) (FW_46 S hW) ⟨rfl, rfl⟩ rfl ?_
                    change PQ _ _ _ mm_X12_isShelf 0 [.ref 46, .int 6] [] _ _ 0 0 _
                    refine q_aload_n rfl rfl rfl ?_
                    refine q_iload_n rfl rfl rfl ?_
                    refine q_iconst rfl rfl ?_
                    refine q_bipush rfl rfl ?_
                    refine q_nV3 rfl rfl (Or.inl rfl) rfl rfl rfl (by decide) (FW_46 S hW) ⟨rfl, rfl⟩ rfl ?_
                    change PQ _ _ _ mm_X12_in 0 [.ref 46, .int 6, .int 0, .int 7] [] _ _ 0 0 _
                    refine q_iload_n rfl rfl rfl ?_
                    refine q_iload_n rfl rfl rfl ?_
                    refine q_iclt rfl rfl (fun c451 => absurd c451 (by decide)) (fun c451 => ?_)
                    refine q_iload_n rfl rfl rfl ?_
                    refine q_iload_n rfl rfl rfl ?_
                    refine q_icgt rfl rfl (fun c452 => absurd c452 (by decide)) (fun c452 => ?_)
                    refine q_iconst rfl rfl ?_
                    refine q_goto rfl ?_
                    refine q_iret rfl rfl rfl ?_
                    refine ⟨_, rfl, ?_⟩
                    refine q_iret rfl rfl rfl ?_
                    refine ⟨_, rfl, ?_⟩
                    refine q_ifeq rfl rfl (fun c453 => absurd c453 (by decide)) (fun c453 => ?_)
                    refine q_iload_n rfl rfl rfl ?_
                    refine q_ifeq rfl rfl (fun c454 => absurd c454 (by decide)) (fun c454 => ?_)
                    refine q_iload_n rfl rfl rfl ?_
                    refine q_iconst rfl rfl ?_
                    refine q_iceq rfl rfl (fun c455 => absurd c455 (by decide)) (fun c455 => ?_)
                    refine q_iload_n rfl rfl rfl ?_
                    refine q_iconst rfl rfl ?_
                    refine q_icne rfl rfl (fun c456 => absurd c456 (by decide)) (fun c456 => ?_)
                    refine q_iload_n rfl rfl rfl ?_
                    refine q_iconst rfl rfl ?_
                    refine q_icne rfl rfl (fun c457 => ?_) (fun c457 => absurd (by decide) c457)
                    refine q_aload_n rfl rfl rfl ?_
                    refine q_iload_n rfl rfl rfl ?_
                    refine q_nV1 rfl rfl (Or.inl rfl) rfl rfl rfl (by decide) (FW_46 S hW) ⟨rfl, rfl⟩ rfl ?_
                    change PQ _ _ _ mm_X12_isHand 0 [.ref 46, .int 0] [] _ _ 0 0 _
                    refine q_aload_n rfl rfl rfl ?_
                    refine q_iload_n rfl rfl rfl ?_
                    refine q_iconst rfl rfl ?_
                    refine q_aload_n rfl rfl rfl ?_
                    refine q_getf rfl rfl (by decide) (FW_46 S hW) rfl ?_
                    refine q_iconst rfl rfl ?_
                    refine q_isub rfl rfl (q_tn (z := 0) rfl ?_)
                    refine q_nV3 rfl rfl (Or.inl rfl) rfl rfl rfl (by decide) (FW_46 S hW) ⟨rfl, rfl⟩ rfl ?_
                    change PQ _ _ _ mm_X12_in 0 [.ref 46, .int 0, .int 0, .int 0] [] _ _ 0 0 _
                    refine q_iload_n rfl rfl rfl ?_
                    refine q_iload_n rfl rfl rfl ?_
                    refine q_iclt rfl rfl (fun c458 => absurd c458 (by decide)) (fun c458 => ?_)
                    refine q_iload_n rfl rfl rfl ?_
                    refine q_iload_n rfl rfl rfl ?_
                    refine q_icgt rfl rfl (fun c459 => absurd c459 (by decide)) (fun c459 => ?_)
                    refine q_iconst rfl rfl ?_
                    refine q_goto rfl ?_
                    refine q_iret rfl rfl rfl ?_
                    refine ⟨_, rfl, ?_⟩
                    refine q_iret rfl rfl rfl ?_
                    refine ⟨_, rfl, ?_⟩
                    refine q_ifeq rfl rfl (fun c460 => absurd c460 (by decide)) (fun c460 => ?_)
                    refine q_iconst rfl rfl ?_
                    refine q_goto rfl ?_
                    refine q_ist5 rfl rfl rfl rfl ?_
                    refine q_iload rfl rfl rfl ?_
                    refine q_ifne rfl rfl (fun c461 => absurd c461 (by decide)) (fun c461 => ?_)
                    refine q_aload_n rfl rfl rfl ?_
                    refine q_getf rfl rfl (by decide) (FW_46 S hW) rfl ?_
                    refine q_iload_n rfl rfl rfl ?_
                    refine q_iload_n rfl rfl rfl ?_
                    refine q_iast rfl rfl (by decide) (FW_75 S hW) (by decide) ?_
                    refine q_aload_n rfl rfl rfl ?_
                    refine q_iload_n rfl rfl rfl ?_
                    refine q_cV1v rfl rfl (Or.inl rfl) rfl rfl rfl (by decide) (FW_46 S hW) ⟨rfl, rfl⟩ rfl (fun K' hK' => l_clear (D := 6) (by decide) rfl (by decide) (FW_46 S hW) rfl (FW_79 S hW) hK') ?_
                    refine q_iload_n rfl rfl rfl ?_
                    refine q_iconst rfl rfl ?_
                    refine q_icne rfl rfl (fun c462 => absurd c462 (by decide)) (fun c462 => ?_)
                    refine q_iload_n rfl rfl rfl ?_
                    refine q_iconst rfl rfl ?_
                    refine q_icne rfl rfl (fun c463 => absurd c463 (by decide)) (fun c463 => ?_)
                    refine q_iload_n rfl rfl rfl ?_
                    refine q_iconst rfl rfl ?_
                    refine q_icne rfl rfl (fun c464 => ?_) (fun c464 => absurd (by decide) c464)
                    refine q_aload_n rfl rfl rfl ?_
                    refine q_getf rfl rfl (by decide) (FW_46 S hW) rfl ?_
                    refine q_iload_n rfl rfl rfl ?_
                    refine q_aload_n rfl rfl rfl ?_
                    refine q_getf rfl rfl (by decide) (FW_46 S hW) rfl ?_
                    refine q_iload_n rfl rfl rfl ?_
                    refine q_iald rfl rfl (by decide) (FW_47 S hW) (by decide) (q_tn (z := 0) rfl ?_)
                    refine q_iast rfl rfl (by decide) (FW_78 S hW) (by decide) ?_
                    refine q_iconst rfl rfl ?_
                    refine q_ist6 rfl rfl rfl rfl ?_
                    refine q_iload rfl rfl rfl ?_
                    refine q_aload_n rfl rfl rfl ?_
                    refine q_getf rfl rfl (by decide) (FW_46 S hW) rfl ?_
                    refine q_iload_n rfl rfl rfl ?_
                    refine q_iald rfl rfl (by decide) (FW_47 S hW) (by decide) (q_tn (z := 0) rfl ?_)
                    refine q_icge rfl rfl (fun c465 => ?_) (fun c465 => absurd (by decide) c465)
                    refine q_iconst rfl rfl ?_
                    refine q_iret rfl rfl trivial ?_
                    refine ⟨_, rfl, ?_⟩
                    refine q_iceq rfl rfl (fun c466 => ?_) (fun c466 => absurd (by decide) c466)
                    refine q_icc4 (z := 6) rfl rfl rfl rfl rfl ?_
                    refine q_goto rfl ?_
                    refine q_iload rfl rfl rfl ?_
                    refine q_aload_nF rfl rfl rfl ?_
                    refine q_alenX (x := 6) rfl rfl rfl ?_
                    refine q_bipush rfl rfl ?_
                    refine q_isub rfl rfl (q_tn (z := 0) rfl ?_)
                    refine q_icgt rfl rfl (fun c467 => ?_) (fun c467 => absurd (by decide) c467)
                    refine q_iconst rfl rfl ?_
                    refine q_iret rfl rfl rfl ?_
                    exact hK _ _
                  · refine q_aast rfl rfl (by decide) (by decide) (FW_43 S hW) rfl rfl (by decide) ?_
                    refine q_iconst rfl rfl ?_
                    refine q_iret rfl rfl trivial ?_
                    refine ⟨_, rfl, ?_⟩
                    refine q_aload_n rfl rfl rfl ?_
                    refine q_aload_nF rfl rfl rfl ?_
                    refine q_iload rfl rfl rfl ?_
                    refine q_iconst rfl rfl ?_
                    refine q_iadd rfl rfl (q_tn (z := 1) rfl ?_)
                    refine q_ialdX (x := 7) rfl rfl rfl hx1 ?_
                    refine q_aload_nF rfl rfl rfl ?_
                    refine q_iload rfl rfl rfl ?_
                    refine q_iconst rfl rfl ?_
                    refine q_iadd rfl rfl (q_tn (z := 2) rfl ?_)
                    refine q_ialdX (x := 4) rfl rfl rfl hx2 ?_
                    refine q_aload_nF rfl rfl rfl ?_
                    refine q_iload rfl rfl rfl ?_
                    refine q_iconst rfl rfl ?_
                    refine q_iadd rfl rfl (q_tn (z := 3) rfl ?_)
                    refine q_ialdX (x := 0) rfl rfl rfl hx3 ?_
                    refine q_aload_nF rfl rfl rfl ?_
                    refine q_iload rfl rfl rfl ?_
                    refine q_iconst rfl rfl ?_
                    refine q_iadd rfl rfl (q_tn (z := 4) rfl ?_)
                    refine q_ialdX (x := x4) rfl rfl rfl hx4 ?_
                    refine q_nV4 rfl rfl (Or.inl rfl) rfl rfl rfl (by decide) (FW_46 S hW) ⟨rfl, rfl⟩ rfl ?_
                    change PQ _ _ _ mm_X12_keep 0 [.ref 46, .int 7, .int 4, .int 0, .int x4, pm_un, pm_un] [] _ _ 0 0 _
                    refine q_aload_n rfl rfl rfl ?_
                    refine q_iload_n rfl rfl rfl ?_
                    refine q_nV1 rfl rfl (Or.inl rfl) rfl rfl rfl (by decide) (FW_46 S hW) ⟨rfl, rfl⟩ rfl ?_
                    change PQ _ _ _ mm_X12_isShelf 0 [.ref 46, .int 7] [] _ _ 0 0 _
                    refine q_aload_n rfl rfl rfl ?_
                    refine q_iload_n rfl rfl rfl ?_
                    refine q_iconst rfl rfl ?_
                    refine q_bipush rfl rfl ?_
                    refine q_nV3 rfl rfl (Or.inl rfl) rfl rfl rfl (by decide) (FW_46 S hW) ⟨rfl, rfl⟩ rfl ?_
                    change PQ _ _ _ mm_X12_in 0 [.ref 46, .int 7, .int 0, .int 7] [] _ _ 0 0 _
                    refine q_iload_n rfl rfl rfl ?_
                    refine q_iload_n rfl rfl rfl ?_
                    refine q_iclt rfl rfl (fun c468 => absurd c468 (by decide)) (fun c468 => ?_)
                    refine q_iload_n rfl rfl rfl ?_
                    refine q_iload_n rfl rfl rfl ?_
                    refine q_icgt rfl rfl (fun c469 => absurd c469 (by decide)) (fun c469 => ?_)
                    refine q_iconst rfl rfl ?_
                    refine q_goto rfl ?_
                    refine q_iret rfl rfl rfl ?_
                    refine ⟨_, rfl, ?_⟩
                    refine q_iret rfl rfl rfl ?_
                    refine ⟨_, rfl, ?_⟩
                    refine q_ifeq rfl rfl (fun c470 => absurd c470 (by decide)) (fun c470 => ?_)
                    refine q_iload_n rfl rfl rfl ?_
                    refine q_ifeq rfl rfl (fun c471 => absurd c471 (by decide)) (fun c471 => ?_)
                    refine q_iload_n rfl rfl rfl ?_
                    refine q_iconst rfl rfl ?_
                    refine q_iceq rfl rfl (fun c472 => absurd c472 (by decide)) (fun c472 => ?_)
                    refine q_iload_n rfl rfl rfl ?_
                    refine q_iconst rfl rfl ?_
                    refine q_icne rfl rfl (fun c473 => absurd c473 (by decide)) (fun c473 => ?_)
                    refine q_iload_n rfl rfl rfl ?_
                    refine q_iconst rfl rfl ?_
                    refine q_icne rfl rfl (fun c474 => ?_) (fun c474 => absurd (by decide) c474)
                    refine q_aload_n rfl rfl rfl ?_
                    refine q_iload_n rfl rfl rfl ?_
                    refine q_nV1 rfl rfl (Or.inl rfl) rfl rfl rfl (by decide) (FW_46 S hW) ⟨rfl, rfl⟩ rfl ?_
                    change PQ _ _ _ mm_X12_isHand 0 [.ref 46, .int 0] [] _ _ 0 0 _
                    refine q_aload_n rfl rfl rfl ?_
                    refine q_iload_n rfl rfl rfl ?_
                    refine q_iconst rfl rfl ?_
                    refine q_aload_n rfl rfl rfl ?_
                    refine q_getf rfl rfl (by decide) (FW_46 S hW) rfl ?_
                    refine q_iconst rfl rfl ?_
                    refine q_isub rfl rfl (q_tn (z := 0) rfl ?_)
                    refine q_nV3 rfl rfl (Or.inl rfl) rfl rfl rfl (by decide) (FW_46 S hW) ⟨rfl, rfl⟩ rfl ?_
                    change PQ _ _ _ mm_X12_in 0 [.ref 46, .int 0, .int 0, .int 0] [] _ _ 0 0 _
                    refine q_iload_n rfl rfl rfl ?_
                    refine q_iload_n rfl rfl rfl ?_
                    refine q_iclt rfl rfl (fun c475 => absurd c475 (by decide)) (fun c475 => ?_)
                    refine q_iload_n rfl rfl rfl ?_
                    refine q_iload_n rfl rfl rfl ?_
                    refine q_icgt rfl rfl (fun c476 => absurd c476 (by decide)) (fun c476 => ?_)
                    refine q_iconst rfl rfl ?_
                    refine q_goto rfl ?_
                    refine q_iret rfl rfl rfl ?_
                    refine ⟨_, rfl, ?_⟩
                    refine q_iret rfl rfl rfl ?_
                    refine ⟨_, rfl, ?_⟩
                    refine q_ifeq rfl rfl (fun c477 => absurd c477 (by decide)) (fun c477 => ?_)
                    refine q_iconst rfl rfl ?_
                    refine q_goto rfl ?_
                    refine q_ist5 rfl rfl rfl rfl ?_
                    refine q_iload rfl rfl rfl ?_
                    refine q_ifne rfl rfl (fun c478 => absurd c478 (by decide)) (fun c478 => ?_)
                    refine q_aload_n rfl rfl rfl ?_
                    refine q_getf rfl rfl (by decide) (FW_46 S hW) rfl ?_
                    refine q_iload_n rfl rfl rfl ?_
                    refine q_iload_n rfl rfl rfl ?_
                    refine q_iast rfl rfl (by decide) (FW_75 S hW) (by decide) ?_
                    refine q_aload_n rfl rfl rfl ?_
                    refine q_iload_n rfl rfl rfl ?_
                    refine q_cV1v rfl rfl (Or.inl rfl) rfl rfl rfl (by decide) (FW_46 S hW) ⟨rfl, rfl⟩ rfl (fun K' hK' => l_clear (D := 7) (by decide) rfl (by decide) (FW_46 S hW) rfl (FW_79 S hW) hK') ?_
                    refine q_iload_n rfl rfl rfl ?_
                    refine q_iconst rfl rfl ?_
                    refine q_icne rfl rfl (fun c479 => absurd c479 (by decide)) (fun c479 => ?_)
                    refine q_iload_n rfl rfl rfl ?_
                    refine q_iconst rfl rfl ?_
                    refine q_icne rfl rfl (fun c480 => absurd c480 (by decide)) (fun c480 => ?_)
                    refine q_iload_n rfl rfl rfl ?_
                    refine q_iconst rfl rfl ?_
                    refine q_icne rfl rfl (fun c481 => ?_) (fun c481 => absurd (by decide) c481)
                    refine q_aload_n rfl rfl rfl ?_
                    refine q_getf rfl rfl (by decide) (FW_46 S hW) rfl ?_
                    refine q_iload_n rfl rfl rfl ?_
                    refine q_aload_n rfl rfl rfl ?_
                    refine q_getf rfl rfl (by decide) (FW_46 S hW) rfl ?_
                    refine q_iload_n rfl rfl rfl ?_
                    refine q_iald rfl rfl (by decide) (FW_47 S hW) (by decide) (q_tn (z := 0) rfl ?_)
                    refine q_iast rfl rfl (by decide) (FW_78 S hW) (by decide) ?_
                    refine q_iconst rfl rfl ?_
                    refine q_ist6 rfl rfl rfl rfl ?_
                    refine q_iload rfl rfl rfl ?_
                    refine q_aload_n rfl rfl rfl ?_
                    refine q_getf rfl rfl (by decide) (FW_46 S hW) rfl ?_
                    refine q_iload_n rfl rfl rfl ?_
                    refine q_iald rfl rfl (by decide) (FW_47 S hW) (by decide) (q_tn (z := 0) rfl ?_)
                    refine q_icge rfl rfl (fun c482 => ?_) (fun c482 => absurd (by decide) c482)
                    refine q_iconst rfl rfl ?_
                    refine q_iret rfl rfl trivial ?_
                    refine ⟨_, rfl, ?_⟩
                    refine q_iceq rfl rfl (fun c483 => ?_) (fun c483 => absurd (by decide) c483)
                    refine q_icc4 (z := 6) rfl rfl rfl rfl rfl ?_
                    refine q_goto rfl ?_
                    refine q_iload rfl rfl rfl ?_
                    refine q_aload_nF rfl rfl rfl ?_
                    refine q_alenX (x := 6) rfl rfl rfl ?_
                    refine q_bipush rfl rfl ?_
                    refine q_isub rfl rfl (q_tn (z := 0) rfl ?_)
                    refine q_icgt rfl rfl (fun c484 => ?_) (fun c484 => absurd (by decide) c484)
                    refine q_iconst rfl rfl ?_
                    refine q_iret rfl rfl rfl ?_
                    exact hK _ _
            · refine q_iconst rfl rfl ?_
              refine q_iret rfl rfl trivial ?_
              refine ⟨_, rfl, ?_⟩
              refine q_aload_n rfl rfl rfl ?_
              refine q_aload_nF rfl rfl rfl ?_
              refine q_iload rfl rfl rfl ?_
              refine q_iconst rfl rfl ?_
              refine q_iadd rfl rfl (q_tn (z := 1) rfl ?_)
              refine q_ialdX (x := x1) rfl rfl rfl hx1 ?_
              refine q_aload_nF rfl rfl rfl ?_
              refine q_iload rfl rfl rfl ?_
              refine q_iconst rfl rfl ?_
              refine q_iadd rfl rfl (q_tn (z := 2) rfl ?_)
              refine q_ialdX (x := x2) rfl rfl rfl hx2 ?_
              refine q_aload_nF rfl rfl rfl ?_
              refine q_iload rfl rfl rfl ?_
              refine q_iconst rfl rfl ?_
              refine q_iadd rfl rfl (q_tn (z := 3) rfl ?_)
              refine q_ialdX (x := x3) rfl rfl rfl hx3 ?_
              refine q_aload_nF rfl rfl rfl ?_
              refine q_iload rfl rfl rfl ?_
              refine q_iconst rfl rfl ?_
              refine q_iadd rfl rfl (q_tn (z := 4) rfl ?_)
              refine q_ialdX (x := x4) rfl rfl rfl hx4 ?_
              refine q_nV4 rfl rfl (Or.inl rfl) rfl rfl rfl (by decide) (FW_46 S hW) ⟨rfl, rfl⟩ rfl ?_
              change PQ _ _ _ mm_X12_keep 0 [.ref 46, .int x1, .int x2, .int x3, .int x4, pm_un, pm_un] [] _ _ 0 0 _
              refine q_aload_n rfl rfl rfl ?_
              refine q_iload_n rfl rfl rfl ?_
              refine q_nV1 rfl rfl (Or.inl rfl) rfl rfl rfl (by decide) (FW_46 S hW) ⟨rfl, rfl⟩ rfl ?_
              change PQ _ _ _ mm_X12_isShelf 0 [.ref 46, .int x1] [] _ _ 0 0 _
              refine q_aload_n rfl rfl rfl ?_
              refine q_iload_n rfl rfl rfl ?_
              refine q_iconst rfl rfl ?_
              refine q_bipush rfl rfl ?_
              refine q_nV3 rfl rfl (Or.inl rfl) rfl rfl rfl (by decide) (FW_46 S hW) ⟨rfl, rfl⟩ rfl ?_
              change PQ _ _ _ mm_X12_in 0 [.ref 46, .int x1, .int 0, .int 7] [] _ _ 0 0 _
              refine q_iload_n rfl rfl rfl ?_
              refine q_iload_n rfl rfl rfl ?_
              refine q_iclt rfl rfl (fun c485 => absurd c485 (i_lt_f (i_nlt c1) rfl)) (fun c485 => ?_)
              refine q_iload_n rfl rfl rfl ?_
              refine q_iload_n rfl rfl rfl ?_
              refine q_icgt rfl rfl (fun c486 => absurd c486 (i_gt_f (i_ltle (i_nle c8) (B := 7) rfl) rfl)) (fun c486 => ?_)
              refine q_iconst rfl rfl ?_
              refine q_goto rfl ?_
              refine q_iret rfl rfl rfl ?_
              refine ⟨_, rfl, ?_⟩
              refine q_iret rfl rfl rfl ?_
              refine ⟨_, rfl, ?_⟩
              refine q_ifeq rfl rfl (fun c487 => absurd c487 (by decide)) (fun c487 => ?_)
              refine q_iload_n rfl rfl rfl ?_
              refine q_ifeq rfl rfl (fun c488 => absurd c488 c17) (fun c488 => ?_)
              refine q_iload_n rfl rfl rfl ?_
              refine q_iconst rfl rfl ?_
              refine q_iceq rfl rfl (fun c489 => absurd c489 c171) (fun c489 => ?_)
              refine q_iload_n rfl rfl rfl ?_
              refine q_iconst rfl rfl ?_
              refine q_icne rfl rfl (fun c490 => absurd c490 c98) (fun c490 => ?_)
              refine q_iload_n rfl rfl rfl ?_
              refine q_iconst rfl rfl ?_
              refine q_icne rfl rfl (fun c491 => absurd c491 c315) (fun c491 => ?_)
              refine q_iconst rfl rfl ?_
              refine q_ist5 rfl rfl rfl rfl ?_
              refine q_iload rfl rfl rfl ?_
              refine q_ifne rfl rfl (fun c492 => ?_) (fun c492 => absurd (by decide) c492)
              refine q_iconst rfl rfl ?_
              refine q_iret rfl rfl trivial ?_
              refine ⟨_, rfl, ?_⟩
              refine q_iceq rfl rfl (fun c493 => ?_) (fun c493 => absurd (by decide) c493)
              refine q_icc4 (z := 6) rfl rfl rfl rfl rfl ?_
              refine q_goto rfl ?_
              refine q_iload rfl rfl rfl ?_
              refine q_aload_nF rfl rfl rfl ?_
              refine q_alenX (x := 6) rfl rfl rfl ?_
              refine q_bipush rfl rfl ?_
              refine q_isub rfl rfl (q_tn (z := 0) rfl ?_)
              refine q_icgt rfl rfl (fun c494 => ?_) (fun c494 => absurd (by decide) c494)
              refine q_iconst rfl rfl ?_
              refine q_iret rfl rfl rfl ?_
              exact hK _ _
end TR
