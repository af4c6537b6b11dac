section TR
variable {EX : pm_M → pm_C → (pm_C → Prop) → Prop} {xs : Nat → Int32} {K : q_K}
set_option maxHeartbeats 40000000 in
set_option maxRecDepth 20000 in
theorem t_op2 {S : Nat → pm_E} (hW : FW S) {x1 x2 x3 x4 x5 : Int32} (hx1 : xs 1 = x1) (hx2 : xs 2 = x2) (hx3 : xs 3 = x3) (hx4 : xs 4 = x4) (hx5 : xs 5 = x5) (hK : ∀ S n, K (some (.int 1)) S n) : PQ (j_SL 6) (j_SV xs) EX mm_L_law 258 [.float 5, .ref 0, .ref 46, .ref 81, .int 0, pm_un, pm_un, pm_un] [] S 82 82 190091 K := by
  refine q_aload_n rfl rfl rfl ?_
  refine q_aload_nF rfl rfl rfl ?_
  refine q_iload rfl rfl rfl ?_
  refine q_iconst rfl rfl ?_
  refine q_iadd rfl rfl (q_tn (z := 1) rfl ?_)
  refine q_ialdX (x := x1) rfl rfl rfl hx1 ?_
  refine q_nV1 rfl rfl (Or.inl rfl) rfl rfl rfl (by decide) (FW_0 S hW) ⟨rfl, rfl⟩ rfl ?_
  change PQ _ _ _ mm_X11_uncode 0 [.ref 0, .int x1] [] _ _ 0 0 _
  refine q_aload_n rfl rfl rfl ?_
  refine q_getf rfl rfl (by decide) (FW_0 S hW) rfl ?_
  refine q_iload_n rfl rfl rfl ?_
  refine q_nV1 rfl rfl (Or.inl rfl) rfl rfl rfl (by decide) (FW_1 S hW) ⟨rfl, rfl⟩ rfl ?_
  change PQ _ _ _ mm_X8_hasHand 0 [.ref 1, .int x1] [] _ _ 0 0 _
  refine q_iload_n rfl rfl rfl ?_
  refine q_iflt rfl rfl (fun c1 => ?_) (fun c1 => ?_)
  · refine q_iconst rfl rfl ?_
    refine q_iret rfl rfl rfl ?_
    refine ⟨_, rfl, ?_⟩
    refine q_ifne rfl rfl (fun c2 => ?_) (fun c2 => absurd (by decide) c2)
    refine q_iconst rfl rfl ?_
    refine q_iret rfl rfl trivial ?_
    refine ⟨_, rfl, ?_⟩
    refine q_aload_n rfl rfl rfl ?_
    refine q_aload_nF rfl rfl rfl ?_
    refine q_iload rfl rfl rfl ?_
    refine q_iconst rfl rfl ?_
    refine q_iadd rfl rfl (q_tn (z := 1) rfl ?_)
    refine q_ialdX (x := x1) rfl rfl rfl hx1 ?_
    refine q_nV1 rfl rfl (Or.inl rfl) rfl rfl rfl (by decide) (FW_46 S hW) ⟨rfl, rfl⟩ rfl ?_
    change PQ _ _ _ mm_X12_uncode 0 [.ref 46, .int x1] [] _ _ 0 0 _
    refine q_aload_n rfl rfl rfl ?_
    refine q_iload_n rfl rfl rfl ?_
    refine q_nV1 rfl rfl (Or.inl rfl) rfl rfl rfl (by decide) (FW_46 S hW) ⟨rfl, rfl⟩ rfl ?_
    change PQ _ _ _ mm_X12_isHand 0 [.ref 46, .int x1] [] _ _ 0 0 _
    refine q_aload_n rfl rfl rfl ?_
    refine q_iload_n rfl rfl rfl ?_
    refine q_iconst rfl rfl ?_
    refine q_aload_n rfl rfl rfl ?_
    refine q_getf rfl rfl (by decide) (FW_46 S hW) rfl ?_
    refine q_iconst rfl rfl ?_
    refine q_isub rfl rfl (q_tn (z := 0) rfl ?_)
    refine q_nV3 rfl rfl (Or.inl rfl) rfl rfl rfl (by decide) (FW_46 S hW) ⟨rfl, rfl⟩ rfl ?_
    change PQ _ _ _ mm_X12_in 0 [.ref 46, .int x1, .int 0, .int 0] [] _ _ 0 0 _
    refine q_iload_n rfl rfl rfl ?_
    refine q_iload_n rfl rfl rfl ?_
    refine q_iclt rfl rfl (fun c3 => ?_) (fun c3 => absurd (i_lt_t (i_ltle c1 (B := (-1)) rfl) rfl) c3)
    refine q_iconst rfl rfl ?_
    refine q_iret rfl rfl rfl ?_
    refine ⟨_, rfl, ?_⟩
    refine q_iret rfl rfl rfl ?_
    refine ⟨_, rfl, ?_⟩
    refine q_ifne rfl rfl (fun c4 => ?_) (fun c4 => absurd (by decide) c4)
    refine q_iconst rfl rfl ?_
    refine q_iret rfl rfl trivial ?_
    refine ⟨_, rfl, ?_⟩
    refine q_iceq rfl rfl (fun c5 => ?_) (fun c5 => absurd (by decide) c5)
    refine q_icc4 (z := 6) rfl rfl rfl rfl rfl ?_
    refine q_goto rfl ?_
    refine q_iload rfl rfl rfl ?_
    refine q_aload_nF rfl rfl rfl ?_
    refine q_alenX (x := 6) rfl rfl rfl ?_
    refine q_bipush rfl rfl ?_
    refine q_isub rfl rfl (q_tn (z := 0) rfl ?_)
    refine q_icgt rfl rfl (fun c6 => ?_) (fun c6 => absurd (by decide) c6)
    refine q_iconst rfl rfl ?_
    refine q_iret rfl rfl rfl ?_
    exact hK _ _
  · refine q_iload_n rfl rfl rfl ?_
    refine q_aload_n rfl rfl rfl ?_
    refine q_getf rfl rfl (by decide) (FW_1 S hW) rfl ?_
    refine q_icge rfl rfl (fun c7 => ?_) (fun c7 => ?_)
    · refine q_iconst rfl rfl ?_
      refine q_iret rfl rfl rfl ?_
      refine ⟨_, rfl, ?_⟩
      refine q_ifne rfl rfl (fun c8 => ?_) (fun c8 => absurd (by decide) c8)
      refine q_iconst rfl rfl ?_
      refine q_iret rfl rfl trivial ?_
      refine ⟨_, rfl, ?_⟩
      refine q_aload_n rfl rfl rfl ?_
      refine q_aload_nF rfl rfl rfl ?_
      refine q_iload rfl rfl rfl ?_
      refine q_iconst rfl rfl ?_
      refine q_iadd rfl rfl (q_tn (z := 1) rfl ?_)
      refine q_ialdX (x := x1) rfl rfl rfl hx1 ?_
      refine q_nV1 rfl rfl (Or.inl rfl) rfl rfl rfl (by decide) (FW_46 S hW) ⟨rfl, rfl⟩ rfl ?_
      change PQ _ _ _ mm_X12_uncode 0 [.ref 46, .int x1] [] _ _ 0 0 _
      refine q_aload_n rfl rfl rfl ?_
      refine q_iload_n rfl rfl rfl ?_
      refine q_nV1 rfl rfl (Or.inl rfl) rfl rfl rfl (by decide) (FW_46 S hW) ⟨rfl, rfl⟩ rfl ?_
      change PQ _ _ _ mm_X12_isHand 0 [.ref 46, .int x1] [] _ _ 0 0 _
      refine q_aload_n rfl rfl rfl ?_
      refine q_iload_n rfl rfl rfl ?_
      refine q_iconst rfl rfl ?_
      refine q_aload_n rfl rfl rfl ?_
      refine q_getf rfl rfl (by decide) (FW_46 S hW) rfl ?_
      refine q_iconst rfl rfl ?_
      refine q_isub rfl rfl (q_tn (z := 0) rfl ?_)
      refine q_nV3 rfl rfl (Or.inl rfl) rfl rfl rfl (by decide) (FW_46 S hW) ⟨rfl, rfl⟩ rfl ?_
      change PQ _ _ _ mm_X12_in 0 [.ref 46, .int x1, .int 0, .int 0] [] _ _ 0 0 _
      refine q_iload_n rfl rfl rfl ?_
      refine q_iload_n rfl rfl rfl ?_
      refine q_iclt rfl rfl (fun c9 => absurd c9 (i_lt_f c7 rfl)) (fun c9 => ?_)
      refine q_iload_n rfl rfl rfl ?_
      refine q_iload_n rfl rfl rfl ?_
      refine q_icgt rfl rfl (fun c10 => ?_) (fun c10 => absurd (i_gt_t c7 rfl) c10)
      refine q_iconst rfl rfl ?_
      refine q_iret rfl rfl rfl ?_
      refine ⟨_, rfl, ?_⟩
      refine q_iret rfl rfl rfl ?_
      refine ⟨_, rfl, ?_⟩
      refine q_ifne rfl rfl (fun c11 => ?_) (fun c11 => absurd (by decide) c11)
      refine q_iconst rfl rfl ?_
      refine q_iret rfl rfl trivial ?_
      refine ⟨_, rfl, ?_⟩
      refine q_iceq rfl rfl (fun c12 => ?_) (fun c12 => absurd (by decide) c12)
      refine q_icc4 (z := 6) rfl rfl rfl rfl rfl ?_
      refine q_goto rfl ?_
      refine q_iload rfl rfl rfl ?_
      refine q_aload_nF rfl rfl rfl ?_
      refine q_alenX (x := 6) rfl rfl rfl ?_
      refine q_bipush rfl rfl ?_
      refine q_isub rfl rfl (q_tn (z := 0) rfl ?_)
      refine q_icgt rfl rfl (fun c13 => ?_) (fun c13 => absurd (by decide) c13)
      refine q_iconst rfl rfl ?_
      refine q_iret rfl rfl rfl ?_
      exact hK _ _
    · have e13 : x1 = 0 := Int32.le_antisymm (i_ltle (i_nle c7) (B := 0) rfl) (i_nlt c1)
      subst e13
      refine q_iconst rfl rfl ?_
      refine q_goto rfl ?_
      refine q_iret rfl rfl rfl ?_
      refine ⟨_, rfl, ?_⟩
      refine q_ifne rfl rfl (fun c14 => absurd c14 (by decide)) (fun c14 => ?_)
      refine q_aload_n rfl rfl rfl ?_
      refine q_getf rfl rfl (by decide) (FW_0 S hW) rfl ?_
      refine q_iload_n rfl rfl rfl ?_
      refine q_nV1 rfl rfl (Or.inl rfl) rfl rfl rfl (by decide) (FW_1 S hW) ⟨rfl, rfl⟩ rfl ?_
      change PQ _ _ _ mm_X8_lengthOf 0 [.ref 1, .int 0] [] _ _ 0 0 _
      refine q_iload_n rfl rfl rfl ?_
      refine q_iflt rfl rfl (fun c15 => absurd c15 (by decide)) (fun c15 => ?_)
      refine q_iload_n rfl rfl rfl ?_
      refine q_aload_n rfl rfl rfl ?_
      refine q_getf rfl rfl (by decide) (FW_1 S hW) rfl ?_
      refine q_icge rfl rfl (fun c16 => absurd c16 (by decide)) (fun c16 => ?_)
      refine q_aload_n rfl rfl rfl ?_
      refine q_getf rfl rfl (by decide) (FW_1 S hW) rfl ?_
      refine q_iload_n rfl rfl rfl ?_
      refine q_iald rfl rfl (by decide) (FW_3 S hW) (by decide) (q_tn (z := 0) rfl ?_)
      refine q_goto rfl ?_
      refine q_iret rfl rfl trivial ?_
      refine ⟨_, rfl, ?_⟩
      refine q_ifne rfl rfl (fun c17 => ?_) (fun c17 => absurd (by decide) c17)
      refine q_bipush rfl rfl ?_
      refine q_iret rfl rfl trivial ?_
      refine ⟨_, rfl, ?_⟩
      refine q_aload_n rfl rfl rfl ?_
      refine q_aload_nF rfl rfl rfl ?_
      refine q_iload rfl rfl rfl ?_
      refine q_iconst rfl rfl ?_
      refine q_iadd rfl rfl (q_tn (z := 1) rfl ?_)
      refine q_ialdX (x := 0) rfl rfl rfl hx1 ?_
      refine q_nV1 rfl rfl (Or.inl rfl) rfl rfl rfl (by decide) (FW_46 S hW) ⟨rfl, rfl⟩ rfl ?_
      change PQ _ _ _ mm_X12_uncode 0 [.ref 46, .int 0] [] _ _ 0 0 _
      refine q_aload_n rfl rfl rfl ?_
      refine q_iload_n rfl rfl rfl ?_
      refine q_nV1 rfl rfl (Or.inl rfl) rfl rfl rfl (by decide) (FW_46 S hW) ⟨rfl, rfl⟩ rfl ?_
      change PQ _ _ _ mm_X12_isHand 0 [.ref 46, .int 0] [] _ _ 0 0 _
      refine q_aload_n rfl rfl rfl ?_
      refine q_iload_n rfl rfl rfl ?_
      refine q_iconst rfl rfl ?_
      refine q_aload_n rfl rfl rfl ?_
      refine q_getf rfl rfl (by decide) (FW_46 S hW) rfl ?_
      refine q_iconst rfl rfl ?_
      refine q_isub rfl rfl (q_tn (z := 0) rfl ?_)
      refine q_nV3 rfl rfl (Or.inl rfl) rfl rfl rfl (by decide) (FW_46 S hW) ⟨rfl, rfl⟩ rfl ?_
      change PQ _ _ _ mm_X12_in 0 [.ref 46, .int 0, .int 0, .int 0] [] _ _ 0 0 _
      refine q_iload_n rfl rfl rfl ?_
      refine q_iload_n rfl rfl rfl ?_
      refine q_iclt rfl rfl (fun c18 => absurd c18 (by decide)) (fun c18 => ?_)
      refine q_iload_n rfl rfl rfl ?_
      refine q_iload_n rfl rfl rfl ?_
      refine q_icgt rfl rfl (fun c19 => absurd c19 (by decide)) (fun c19 => ?_)
      refine q_iconst rfl rfl ?_
      refine q_goto rfl ?_
      refine q_iret rfl rfl rfl ?_
      refine ⟨_, rfl, ?_⟩
      refine q_iret rfl rfl rfl ?_
      refine ⟨_, rfl, ?_⟩
      refine q_ifne rfl rfl (fun c20 => absurd c20 (by decide)) (fun c20 => ?_)
      refine q_aload_n rfl rfl rfl ?_
      refine q_getf rfl rfl (by decide) (FW_46 S hW) rfl ?_
      refine q_iload_n rfl rfl rfl ?_
      refine q_iald rfl rfl (by decide) (FW_47 S hW) (by decide) (q_tn (z := 0) rfl ?_)
      refine q_ifne rfl rfl (fun c21 => ?_) (fun c21 => absurd (by decide) c21)
      refine q_bipush rfl rfl ?_
      refine q_iret rfl rfl trivial ?_
      refine ⟨_, rfl, ?_⟩
      refine q_iceq rfl rfl (fun c22 => ?_) (fun c22 => absurd (by decide) c22)
      refine q_icc4 (z := 6) rfl rfl rfl rfl rfl ?_
      refine q_goto rfl ?_
      refine q_iload rfl rfl rfl ?_
      refine q_aload_nF rfl rfl rfl ?_
      refine q_alenX (x := 6) rfl rfl rfl ?_
      refine q_bipush rfl rfl ?_
      refine q_isub rfl rfl (q_tn (z := 0) rfl ?_)
      refine q_icgt rfl rfl (fun c23 => ?_) (fun c23 => absurd (by decide) c23)
      refine q_iconst rfl rfl ?_
      refine q_iret rfl rfl rfl ?_
      exact hK _ _
set_option maxHeartbeats 40000000 in
set_option maxRecDepth 20000 in
theorem t_op4 {S : Nat → pm_E} (hW : FW S) {x1 x2 x3 x4 x5 : Int32} (hx1 : xs 1 = x1) (hx2 : xs 2 = x2) (hx3 : xs 3 = x3) (hx4 : xs 4 = x4) (hx5 : xs 5 = x5) (hK : ∀ S n, K (some (.int 1)) S n) : PQ (j_SL 6) (j_SV xs) EX mm_L_law 320 [.float 5, .ref 0, .ref 46, .ref 81, .int 0, pm_un, pm_un, pm_un] [] S 82 82 190091 K := by
  refine q_aload_n rfl rfl rfl ?_
  refine q_aload_nF rfl rfl rfl ?_
  refine q_iload rfl rfl rfl ?_
  refine q_iconst rfl rfl ?_
  refine q_iadd rfl rfl (q_tn (z := 1) rfl ?_)
  refine q_ialdX (x := x1) rfl rfl rfl hx1 ?_
  refine q_aload_nF rfl rfl rfl ?_
  refine q_iload rfl rfl rfl ?_
  refine q_iconst rfl rfl ?_
  refine q_iadd rfl rfl (q_tn (z := 2) rfl ?_)
  refine q_ialdX (x := x2) rfl rfl rfl hx2 ?_
  refine q_aload_nF rfl rfl rfl ?_
  refine q_iload rfl rfl rfl ?_
  refine q_iconst rfl rfl ?_
  refine q_iadd rfl rfl (q_tn (z := 3) rfl ?_)
  refine q_ialdX (x := x3) rfl rfl rfl hx3 ?_
  refine q_nV3 rfl rfl (Or.inl rfl) rfl rfl rfl (by decide) (FW_0 S hW) ⟨rfl, rfl⟩ rfl ?_
  change PQ _ _ _ mm_X11_told 0 [.ref 0, .int x1, .int x2, .int x3, pm_un, pm_un] [] _ _ 0 0 _
  refine q_aload_n rfl rfl rfl ?_
  refine q_getf rfl rfl (by decide) (FW_0 S hW) rfl ?_
  refine q_iload_n rfl rfl rfl ?_
  refine q_iload_n rfl rfl rfl ?_
  refine q_nV2 rfl rfl (Or.inl rfl) rfl rfl rfl (by decide) (FW_1 S hW) ⟨rfl, rfl⟩ rfl ?_
  change PQ _ _ _ mm_X8_hasStatement 0 [.ref 1, .int x1, .int x2] [] _ _ 0 0 _
  refine q_iload_n rfl rfl rfl ?_
  refine q_iflt rfl rfl (fun c1 => ?_) (fun c1 => ?_)
  · refine q_iconst rfl rfl ?_
    refine q_iret rfl rfl rfl ?_
    refine ⟨_, rfl, ?_⟩
    refine q_ifeq rfl rfl (fun c2 => ?_) (fun c2 => absurd (by decide) c2)
    refine q_iconst rfl rfl ?_
    refine q_iret rfl rfl trivial ?_
    refine ⟨_, rfl, ?_⟩
    refine q_aload_n rfl rfl rfl ?_
    refine q_aload_nF rfl rfl rfl ?_
    refine q_iload rfl rfl rfl ?_
    refine q_iconst rfl rfl ?_
    refine q_iadd rfl rfl (q_tn (z := 1) rfl ?_)
    refine q_ialdX (x := x1) rfl rfl rfl hx1 ?_
    refine q_aload_nF rfl rfl rfl ?_
    refine q_iload rfl rfl rfl ?_
    refine q_iconst rfl rfl ?_
    refine q_iadd rfl rfl (q_tn (z := 2) rfl ?_)
    refine q_ialdX (x := x2) rfl rfl rfl hx2 ?_
    refine q_aload_nF rfl rfl rfl ?_
    refine q_iload rfl rfl rfl ?_
    refine q_iconst rfl rfl ?_
    refine q_iadd rfl rfl (q_tn (z := 3) rfl ?_)
    refine q_ialdX (x := x3) rfl rfl rfl hx3 ?_
    refine q_nV3 rfl rfl (Or.inl rfl) rfl rfl rfl (by decide) (FW_46 S hW) ⟨rfl, rfl⟩ rfl ?_
    change PQ _ _ _ mm_X12_told 0 [.ref 46, .int x1, .int x2, .int x3, pm_un, pm_un] [] _ _ 0 0 _
    refine q_aload_n rfl rfl rfl ?_
    refine q_iload_n rfl rfl rfl ?_
    refine q_nV1 rfl rfl (Or.inl rfl) rfl rfl rfl (by decide) (FW_46 S hW) ⟨rfl, rfl⟩ rfl ?_
    change PQ _ _ _ mm_X12_isHand 0 [.ref 46, .int x1] [] _ _ 0 0 _
    refine q_aload_n rfl rfl rfl ?_
    refine q_iload_n rfl rfl rfl ?_
    refine q_iconst rfl rfl ?_
    refine q_aload_n rfl rfl rfl ?_
    refine q_getf rfl rfl (by decide) (FW_46 S hW) rfl ?_
    refine q_iconst rfl rfl ?_
    refine q_isub rfl rfl (q_tn (z := 0) rfl ?_)
    refine q_nV3 rfl rfl (Or.inl rfl) rfl rfl rfl (by decide) (FW_46 S hW) ⟨rfl, rfl⟩ rfl ?_
    change PQ _ _ _ mm_X12_in 0 [.ref 46, .int x1, .int 0, .int 0] [] _ _ 0 0 _
    refine q_iload_n rfl rfl rfl ?_
    refine q_iload_n rfl rfl rfl ?_
    refine q_iclt rfl rfl (fun c3 => ?_) (fun c3 => absurd (i_lt_t (i_ltle c1 (B := (-1)) rfl) rfl) c3)
    refine q_iconst rfl rfl ?_
    refine q_iret rfl rfl rfl ?_
    refine ⟨_, rfl, ?_⟩
    refine q_iret rfl rfl rfl ?_
    refine ⟨_, rfl, ?_⟩
    refine q_ifeq rfl rfl (fun c4 => ?_) (fun c4 => absurd (by decide) c4)
    refine q_iconst rfl rfl ?_
    refine q_iret rfl rfl trivial ?_
    refine ⟨_, rfl, ?_⟩
    refine q_iceq rfl rfl (fun c5 => ?_) (fun c5 => absurd (by decide) c5)
    refine q_icc4 (z := 6) rfl rfl rfl rfl rfl ?_
    refine q_goto rfl ?_
    refine q_iload rfl rfl rfl ?_
    refine q_aload_nF rfl rfl rfl ?_
    refine q_alenX (x := 6) rfl rfl rfl ?_
    refine q_bipush rfl rfl ?_
    refine q_isub rfl rfl (q_tn (z := 0) rfl ?_)
    refine q_icgt rfl rfl (fun c6 => ?_) (fun c6 => absurd (by decide) c6)
    refine q_iconst rfl rfl ?_
    refine q_iret rfl rfl rfl ?_
    exact hK _ _
  · refine q_iload_n rfl rfl rfl ?_
    refine q_aload_n rfl rfl rfl ?_
    refine q_getf rfl rfl (by decide) (FW_1 S hW) rfl ?_
    refine q_icge rfl rfl (fun c7 => ?_) (fun c7 => ?_)
    · refine q_iconst rfl rfl ?_
      refine q_iret rfl rfl rfl ?_
      refine ⟨_, rfl, ?_⟩
      refine q_ifeq rfl rfl (fun c8 => ?_) (fun c8 => absurd (by decide) c8)
      refine q_iconst rfl rfl ?_
      refine q_iret rfl rfl trivial ?_
      refine ⟨_, rfl, ?_⟩
      refine q_aload_n rfl rfl rfl ?_
      refine q_aload_nF rfl rfl rfl ?_
      refine q_iload rfl rfl rfl ?_
      refine q_iconst rfl rfl ?_
      refine q_iadd rfl rfl (q_tn (z := 1) rfl ?_)
      refine q_ialdX (x := x1) rfl rfl rfl hx1 ?_
      refine q_aload_nF rfl rfl rfl ?_
      refine q_iload rfl rfl rfl ?_
      refine q_iconst rfl rfl ?_
      refine q_iadd rfl rfl (q_tn (z := 2) rfl ?_)
      refine q_ialdX (x := x2) rfl rfl rfl hx2 ?_
      refine q_aload_nF rfl rfl rfl ?_
      refine q_iload rfl rfl rfl ?_
      refine q_iconst rfl rfl ?_
      refine q_iadd rfl rfl (q_tn (z := 3) rfl ?_)
      refine q_ialdX (x := x3) rfl rfl rfl hx3 ?_
      refine q_nV3 rfl rfl (Or.inl rfl) rfl rfl rfl (by decide) (FW_46 S hW) ⟨rfl, rfl⟩ rfl ?_
      change PQ _ _ _ mm_X12_told 0 [.ref 46, .int x1, .int x2, .int x3, pm_un, pm_un] [] _ _ 0 0 _
      refine q_aload_n rfl rfl rfl ?_
      refine q_iload_n rfl rfl rfl ?_
      refine q_nV1 rfl rfl (Or.inl rfl) rfl rfl rfl (by decide) (FW_46 S hW) ⟨rfl, rfl⟩ rfl ?_
      change PQ _ _ _ mm_X12_isHand 0 [.ref 46, .int x1] [] _ _ 0 0 _
      refine q_aload_n rfl rfl rfl ?_
      refine q_iload_n rfl rfl rfl ?_
      refine q_iconst rfl rfl ?_
      refine q_aload_n rfl rfl rfl ?_
      refine q_getf rfl rfl (by decide) (FW_46 S hW) rfl ?_
      refine q_iconst rfl rfl ?_
      refine q_isub rfl rfl (q_tn (z := 0) rfl ?_)
      refine q_nV3 rfl rfl (Or.inl rfl) rfl rfl rfl (by decide) (FW_46 S hW) ⟨rfl, rfl⟩ rfl ?_
      change PQ _ _ _ mm_X12_in 0 [.ref 46, .int x1, .int 0, .int 0] [] _ _ 0 0 _
      refine q_iload_n rfl rfl rfl ?_
      refine q_iload_n rfl rfl rfl ?_
      refine q_iclt rfl rfl (fun c9 => absurd c9 (i_lt_f c7 rfl)) (fun c9 => ?_)
      refine q_iload_n rfl rfl rfl ?_
      refine q_iload_n rfl rfl rfl ?_
      refine q_icgt rfl rfl (fun c10 => ?_) (fun c10 => absurd (i_gt_t c7 rfl) c10)
      refine q_iconst rfl rfl ?_
      refine q_iret rfl rfl rfl ?_
      refine ⟨_, rfl, ?_⟩
      refine q_iret rfl rfl rfl ?_
      refine ⟨_, rfl, ?_⟩
      refine q_ifeq rfl rfl (fun c11 => ?_) (fun c11 => absurd (by decide) c11)
      refine q_iconst rfl rfl ?_
      refine q_iret rfl rfl trivial ?_
      refine ⟨_, rfl, ?_⟩
      refine q_iceq rfl rfl (fun c12 => ?_) (fun c12 => absurd (by decide) c12)
      refine q_icc4 (z := 6) rfl rfl rfl rfl rfl ?_
      refine q_goto rfl ?_
      refine q_iload rfl rfl rfl ?_
      refine q_aload_nF rfl rfl rfl ?_
      refine q_alenX (x := 6) rfl rfl rfl ?_
      refine q_bipush rfl rfl ?_
      refine q_isub rfl rfl (q_tn (z := 0) rfl ?_)
      refine q_icgt rfl rfl (fun c13 => ?_) (fun c13 => absurd (by decide) c13)
      refine q_iconst rfl rfl ?_
      refine q_iret rfl rfl rfl ?_
      exact hK _ _
    · have e13 : x1 = 0 := Int32.le_antisymm (i_ltle (i_nle c7) (B := 0) rfl) (i_nlt c1)
      subst e13
      refine q_iload_n rfl rfl rfl ?_
      refine q_iflt rfl rfl (fun c14 => ?_) (fun c14 => ?_)
      · refine q_iconst rfl rfl ?_
        refine q_iret rfl rfl rfl ?_
        refine ⟨_, rfl, ?_⟩
        refine q_ifeq rfl rfl (fun c15 => ?_) (fun c15 => absurd (by decide) c15)
        refine q_iconst rfl rfl ?_
        refine q_iret rfl rfl trivial ?_
        refine ⟨_, rfl, ?_⟩
        refine q_aload_n rfl rfl rfl ?_
        refine q_aload_nF rfl rfl rfl ?_
        refine q_iload rfl rfl rfl ?_
        refine q_iconst rfl rfl ?_
        refine q_iadd rfl rfl (q_tn (z := 1) rfl ?_)
        refine q_ialdX (x := 0) rfl rfl rfl hx1 ?_
        refine q_aload_nF rfl rfl rfl ?_
        refine q_iload rfl rfl rfl ?_
        refine q_iconst rfl rfl ?_
        refine q_iadd rfl rfl (q_tn (z := 2) rfl ?_)
        refine q_ialdX (x := x2) rfl rfl rfl hx2 ?_
        refine q_aload_nF rfl rfl rfl ?_
        refine q_iload rfl rfl rfl ?_
        refine q_iconst rfl rfl ?_
        refine q_iadd rfl rfl (q_tn (z := 3) rfl ?_)
        refine q_ialdX (x := x3) rfl rfl rfl hx3 ?_
        refine q_nV3 rfl rfl (Or.inl rfl) rfl rfl rfl (by decide) (FW_46 S hW) ⟨rfl, rfl⟩ rfl ?_
        change PQ _ _ _ mm_X12_told 0 [.ref 46, .int 0, .int x2, .int x3, pm_un, pm_un] [] _ _ 0 0 _
        refine q_aload_n rfl rfl rfl ?_
        refine q_iload_n rfl rfl rfl ?_
        refine q_nV1 rfl rfl (Or.inl rfl) rfl rfl rfl (by decide) (FW_46 S hW) ⟨rfl, rfl⟩ rfl ?_
        change PQ _ _ _ mm_X12_isHand 0 [.ref 46, .int 0] [] _ _ 0 0 _
        refine q_aload_n rfl rfl rfl ?_
        refine q_iload_n rfl rfl rfl ?_
        refine q_iconst rfl rfl ?_
        refine q_aload_n rfl rfl rfl ?_
        refine q_getf rfl rfl (by decide) (FW_46 S hW) rfl ?_
        refine q_iconst rfl rfl ?_
        refine q_isub rfl rfl (q_tn (z := 0) rfl ?_)
        refine q_nV3 rfl rfl (Or.inl rfl) rfl rfl rfl (by decide) (FW_46 S hW) ⟨rfl, rfl⟩ rfl ?_
        change PQ _ _ _ mm_X12_in 0 [.ref 46, .int 0, .int 0, .int 0] [] _ _ 0 0 _
        refine q_iload_n rfl rfl rfl ?_
        refine q_iload_n rfl rfl rfl ?_
        refine q_iclt rfl rfl (fun c16 => absurd c16 (by decide)) (fun c16 => ?_)
        refine q_iload_n rfl rfl rfl ?_
        refine q_iload_n rfl rfl rfl ?_
        refine q_icgt rfl rfl (fun c17 => absurd c17 (by decide)) (fun c17 => ?_)
        refine q_iconst rfl rfl ?_
        refine q_goto rfl ?_
        refine q_iret rfl rfl rfl ?_
        refine ⟨_, rfl, ?_⟩
        refine q_iret rfl rfl rfl ?_
        refine ⟨_, rfl, ?_⟩
        refine q_ifeq rfl rfl (fun c18 => absurd c18 (by decide)) (fun c18 => ?_)
        refine q_aload_n rfl rfl rfl ?_
        refine q_iload_n rfl rfl rfl ?_
        refine q_iconst rfl rfl ?_
        refine q_aload_n rfl rfl rfl ?_
        refine q_getf rfl rfl (by decide) (FW_46 S hW) rfl ?_
        refine q_iload_n rfl rfl rfl ?_
        refine q_iald rfl rfl (by decide) (FW_47 S hW) (by decide) (q_tn (z := 0) rfl ?_)
        refine q_iconst rfl rfl ?_
        refine q_isub rfl rfl (q_tn (z := (-1)) rfl ?_)
        refine q_nV3 rfl rfl (Or.inl rfl) rfl rfl rfl (by decide) (FW_46 S hW) ⟨rfl, rfl⟩ rfl ?_
        change PQ _ _ _ mm_X12_in 0 [.ref 46, .int x2, .int 0, .int (-1)] [] _ _ 0 0 _
        refine q_iload_n rfl rfl rfl ?_
        refine q_iload_n rfl rfl rfl ?_
        refine q_iclt rfl rfl (fun c19 => ?_) (fun c19 => absurd (i_lt_t (i_ltle c14 (B := (-1)) rfl) rfl) c19)
        refine q_iconst rfl rfl ?_
        refine q_iret rfl rfl rfl ?_
        refine ⟨_, rfl, ?_⟩
        refine q_ifeq rfl rfl (fun c20 => ?_) (fun c20 => absurd (by decide) c20)
        refine q_iconst rfl rfl ?_
        refine q_iret rfl rfl trivial ?_
        refine ⟨_, rfl, ?_⟩
        refine q_iceq rfl rfl (fun c21 => ?_) (fun c21 => absurd (by decide) c21)
        refine q_icc4 (z := 6) rfl rfl rfl rfl rfl ?_
        refine q_goto rfl ?_
        refine q_iload rfl rfl rfl ?_
        refine q_aload_nF rfl rfl rfl ?_
        refine q_alenX (x := 6) rfl rfl rfl ?_
        refine q_bipush rfl rfl ?_
        refine q_isub rfl rfl (q_tn (z := 0) rfl ?_)
        refine q_icgt rfl rfl (fun c22 => ?_) (fun c22 => absurd (by decide) c22)
        refine q_iconst rfl rfl ?_
        refine q_iret rfl rfl rfl ?_
        exact hK _ _
      · refine q_iload_n rfl rfl rfl ?_
        refine q_aload_n rfl rfl rfl ?_
        refine q_getf rfl rfl (by decide) (FW_1 S hW) rfl ?_
        refine q_iload_n rfl rfl rfl ?_
        refine q_iald rfl rfl (by decide) (FW_3 S hW) (by decide) (q_tn (z := 0) rfl ?_)
        refine q_icge rfl rfl (fun c23 => ?_) (fun c23 => absurd (i_ge_t (i_nlt c14) rfl) c23)
        refine q_iconst rfl rfl ?_
        refine q_iret rfl rfl rfl ?_
        refine ⟨_, rfl, ?_⟩
        refine q_ifeq rfl rfl (fun c24 => ?_) (fun c24 => absurd (by decide) c24)
        refine q_iconst rfl rfl ?_
        refine q_iret rfl rfl trivial ?_
        refine ⟨_, rfl, ?_⟩
        refine q_aload_n rfl rfl rfl ?_
        refine q_aload_nF rfl rfl rfl ?_
        refine q_iload rfl rfl rfl ?_
        refine q_iconst rfl rfl ?_
        refine q_iadd rfl rfl (q_tn (z := 1) rfl ?_)
        refine q_ialdX (x := 0) rfl rfl rfl hx1 ?_
        refine q_aload_nF rfl rfl rfl ?_
        refine q_iload rfl rfl rfl ?_
        refine q_iconst rfl rfl ?_
        refine q_iadd rfl rfl (q_tn (z := 2) rfl ?_)
        refine q_ialdX (x := x2) rfl rfl rfl hx2 ?_
        refine q_aload_nF rfl rfl rfl ?_
        refine q_iload rfl rfl rfl ?_
        refine q_iconst rfl rfl ?_
        refine q_iadd rfl rfl (q_tn (z := 3) rfl ?_)
        refine q_ialdX (x := x3) rfl rfl rfl hx3 ?_
        refine q_nV3 rfl rfl (Or.inl rfl) rfl rfl rfl (by decide) (FW_46 S hW) ⟨rfl, rfl⟩ rfl ?_
        change PQ _ _ _ mm_X12_told 0 [.ref 46, .int 0, .int x2, .int x3, pm_un, pm_un] [] _ _ 0 0 _
        refine q_aload_n rfl rfl rfl ?_
        refine q_iload_n rfl rfl rfl ?_
        refine q_nV1 rfl rfl (Or.inl rfl) rfl rfl rfl (by decide) (FW_46 S hW) ⟨rfl, rfl⟩ rfl ?_
        change PQ _ _ _ mm_X12_isHand 0 [.ref 46, .int 0] [] _ _ 0 0 _
        refine q_aload_n rfl rfl rfl ?_
        refine q_iload_n rfl rfl rfl ?_
        refine q_iconst rfl rfl ?_
        refine q_aload_n rfl rfl rfl ?_
        refine q_getf rfl rfl (by decide) (FW_46 S hW) rfl ?_
        refine q_iconst rfl rfl ?_
        refine q_isub rfl rfl (q_tn (z := 0) rfl ?_)
        refine q_nV3 rfl rfl (Or.inl rfl) rfl rfl rfl (by decide) (FW_46 S hW) ⟨rfl, rfl⟩ rfl ?_
        change PQ _ _ _ mm_X12_in 0 [.ref 46, .int 0, .int 0, .int 0] [] _ _ 0 0 _
        refine q_iload_n rfl rfl rfl ?_
        refine q_iload_n rfl rfl rfl ?_
        refine q_iclt rfl rfl (fun c25 => absurd c25 (by decide)) (fun c25 => ?_)
        refine q_iload_n rfl rfl rfl ?_
        refine q_iload_n rfl rfl rfl ?_
        refine q_icgt rfl rfl (fun c26 => absurd c26 (by decide)) (fun c26 => ?_)
        refine q_iconst rfl rfl ?_
        refine q_goto rfl ?_
        refine q_iret rfl rfl rfl ?_
        refine ⟨_, rfl, ?_⟩
        refine q_iret rfl rfl rfl ?_
        refine ⟨_, rfl, ?_⟩
        refine q_ifeq rfl rfl (fun c27 => absurd c27 (by decide)) (fun c27 => ?_)
        refine q_aload_n rfl rfl rfl ?_
        refine q_iload_n rfl rfl rfl ?_
        refine q_iconst rfl rfl ?_
        refine q_aload_n rfl rfl rfl ?_
        refine q_getf rfl rfl (by decide) (FW_46 S hW) rfl ?_
        refine q_iload_n rfl rfl rfl ?_
        refine q_iald rfl rfl (by decide) (FW_47 S hW) (by decide) (q_tn (z := 0) rfl ?_)
        refine q_iconst rfl rfl ?_
        refine q_isub rfl rfl (q_tn (z := (-1)) rfl ?_)
        refine q_nV3 rfl rfl (Or.inl rfl) rfl rfl rfl (by decide) (FW_46 S hW) ⟨rfl, rfl⟩ rfl ?_
        change PQ _ _ _ mm_X12_in 0 [.ref 46, .int x2, .int 0, .int (-1)] [] _ _ 0 0 _
        refine q_iload_n rfl rfl rfl ?_
        refine q_iload_n rfl rfl rfl ?_
        refine q_iclt rfl rfl (fun c28 => absurd c28 (i_lt_f (i_nlt c14) rfl)) (fun c28 => ?_)
        refine q_iload_n rfl rfl rfl ?_
        refine q_iload_n rfl rfl rfl ?_
        refine q_icgt rfl rfl (fun c29 => ?_) (fun c29 => absurd (i_gt_t (i_nlt c14) rfl) c29)
        refine q_iconst rfl rfl ?_
        refine q_iret rfl rfl rfl ?_
        refine ⟨_, rfl, ?_⟩
        refine q_ifeq rfl rfl (fun c30 => ?_) (fun c30 => absurd (by decide) c30)
        refine q_iconst rfl rfl ?_
        refine q_iret rfl rfl trivial ?_
        refine ⟨_, rfl, ?_⟩
        refine q_iceq rfl rfl (fun c31 => ?_) (fun c31 => absurd (by decide) c31)
        refine q_icc4 (z := 6) rfl rfl rfl rfl rfl ?_
        refine q_goto rfl ?_
        refine q_iload rfl rfl rfl ?_
        refine q_aload_nF rfl rfl rfl ?_
        refine q_alenX (x := 6) rfl rfl rfl ?_
        refine q_bipush rfl rfl ?_
        refine q_isub rfl rfl (q_tn (z := 0) rfl ?_)
        refine q_icgt rfl rfl (fun c32 => ?_) (fun c32 => absurd (by decide) c32)
        refine q_iconst rfl rfl ?_
        refine q_iret rfl rfl rfl ?_
        exact hK _ _
set_option maxHeartbeats 40000000 in
set_option maxRecDepth 20000 in
theorem t_op5 {S : Nat → pm_E} (hW : FW S) {x1 x2 x3 x4 x5 : Int32} (hx1 : xs 1 = x1) (hx2 : xs 2 = x2) (hx3 : xs 3 = x3) (hx4 : xs 4 = x4) (hx5 : xs 5 = x5) (hK : ∀ S n, K (some (.int 1)) S n) : PQ (j_SL 6) (j_SV xs) EX mm_L_law 369 [.float 5, .ref 0, .ref 46, .ref 81, .int 0, pm_un, pm_un, pm_un] [] S 82 82 190091 K := by
  refine q_aload_n rfl rfl rfl ?_
  refine q_nV0 rfl rfl (Or.inl rfl) rfl rfl rfl (by decide) (FW_0 S hW) ⟨rfl, rfl⟩ rfl ?_
  change PQ _ _ _ mm_X11_start 0 [.ref 0] [] _ _ 0 0 _
  refine q_aload_n rfl rfl rfl ?_
  refine q_aload_n rfl rfl rfl ?_
  refine q_getf rfl rfl (by decide) (FW_0 S hW) rfl ?_
  refine q_nV0 rfl rfl (Or.inl rfl) rfl rfl rfl (by decide) (FW_7 S hW) ⟨rfl, rfl⟩ rfl ?_
  change PQ _ _ _ mm_X6_first 0 [.ref 7, pm_un, pm_un, pm_un] [] _ _ 0 0 _
  refine q_lconst rfl rfl ?_
  refine q_lst1n rfl rfl rfl rfl ?_
  refine q_iconst rfl rfl ?_
  refine q_ist3n rfl rfl rfl rfl ?_
  refine q_iload_n rfl rfl rfl ?_
  refine q_iconst rfl rfl ?_
  refine q_icge rfl rfl (fun c1 => absurd c1 (by decide)) (fun c1 => ?_)
  refine q_lload_n rfl rfl rfl ?_
  refine q_iload_n rfl rfl rfl ?_
  refine q_aload_n rfl rfl rfl ?_
  refine q_getf rfl rfl (by decide) (FW_7 S hW) rfl ?_
  refine q_getf rfl rfl (by decide) (FW_1 S hW) rfl ?_
  refine q_iload_n rfl rfl rfl ?_
  refine q_iald rfl rfl (by decide) (FW_2 S hW) (by decide) (q_tn (z := 0) rfl ?_)
  refine q_nS3 rfl rfl (Or.inl rfl) rfl rfl ⟨rfl, rfl⟩ rfl ?_
  change PQ _ _ _ mm_X0_withPlace 0 [.long 0, pm_un, .int 0, .int 0, pm_un] [] _ _ 0 0 _
  refine q_bipush rfl rfl ?_
  refine q_iconst rfl rfl ?_
  refine q_iload_n rfl rfl rfl ?_
  refine q_imul rfl rfl (q_tn (z := 0) rfl ?_)
  refine q_iadd rfl rfl (q_tn (z := 36) rfl ?_)
  refine q_ist4 rfl rfl rfl rfl ?_
  refine q_lload_n rfl rfl rfl ?_
  refine q_ldc2 rfl rfl ?_
  refine q_iload rfl rfl rfl ?_
  refine q_lshl rfl rfl (q_tnl (z := 1030792151040) rfl ?_)
  refine q_ldc2 rfl rfl ?_
  refine q_lxor rfl rfl (q_tnl (z := (-1030792151041)) rfl ?_)
  refine q_land rfl rfl (q_tnl (z := 0) rfl ?_)
  refine q_iload_n rfl rfl rfl ?_
  refine q_i2l rfl rfl (q_tnl (z := 0) rfl ?_)
  refine q_iload rfl rfl rfl ?_
  refine q_lshl rfl rfl (q_tnl (z := 0) rfl ?_)
  refine q_lor rfl rfl (q_tnl (z := 0) rfl ?_)
  refine q_lret rfl rfl trivial ?_
  refine ⟨_, rfl, ?_⟩
  refine q_lst1n rfl rfl rfl rfl ?_
  refine q_icc3 (z := 1) rfl rfl rfl rfl rfl ?_
  refine q_goto rfl ?_
  refine q_iload_n rfl rfl rfl ?_
  refine q_iconst rfl rfl ?_
  refine q_icge rfl rfl (fun c2 => absurd c2 (by decide)) (fun c2 => ?_)
  refine q_lload_n rfl rfl rfl ?_
  refine q_iload_n rfl rfl rfl ?_
  refine q_aload_n rfl rfl rfl ?_
  refine q_getf rfl rfl (by decide) (FW_7 S hW) rfl ?_
  refine q_getf rfl rfl (by decide) (FW_1 S hW) rfl ?_
  refine q_iload_n rfl rfl rfl ?_
  refine q_iald rfl rfl (by decide) (FW_2 S hW) (by decide) (q_tn (z := 0) rfl ?_)
  refine q_nS3 rfl rfl (Or.inl rfl) rfl rfl ⟨rfl, rfl⟩ rfl ?_
  change PQ _ _ _ mm_X0_withPlace 0 [.long 0, pm_un, .int 1, .int 0, pm_un] [] _ _ 0 0 _
  refine q_bipush rfl rfl ?_
  refine q_iconst rfl rfl ?_
  refine q_iload_n rfl rfl rfl ?_
  refine q_imul rfl rfl (q_tn (z := 4) rfl ?_)
  refine q_iadd rfl rfl (q_tn (z := 40) rfl ?_)
  refine q_ist4 rfl rfl rfl rfl ?_
  refine q_lload_n rfl rfl rfl ?_
  refine q_ldc2 rfl rfl ?_
  refine q_iload rfl rfl rfl ?_
  refine q_lshl rfl rfl (q_tnl (z := 16492674416640) rfl ?_)
  refine q_ldc2 rfl rfl ?_
  refine q_lxor rfl rfl (q_tnl (z := (-16492674416641)) rfl ?_)
  refine q_land rfl rfl (q_tnl (z := 0) rfl ?_)
  refine q_iload_n rfl rfl rfl ?_
  refine q_i2l rfl rfl (q_tnl (z := 0) rfl ?_)
  refine q_iload rfl rfl rfl ?_
  refine q_lshl rfl rfl (q_tnl (z := 0) rfl ?_)
  refine q_lor rfl rfl (q_tnl (z := 0) rfl ?_)
  refine q_lret rfl rfl trivial ?_
  refine ⟨_, rfl, ?_⟩
  refine q_lst1n rfl rfl rfl rfl ?_
  refine q_icc3 (z := 2) rfl rfl rfl rfl rfl ?_
  refine q_goto rfl ?_
  refine q_iload_n rfl rfl rfl ?_
  refine q_iconst rfl rfl ?_
  refine q_icge rfl rfl (fun c3 => absurd c3 (by decide)) (fun c3 => ?_)
  refine q_lload_n rfl rfl rfl ?_
  refine q_iload_n rfl rfl rfl ?_
  refine q_aload_n rfl rfl rfl ?_
  refine q_getf rfl rfl (by decide) (FW_7 S hW) rfl ?_
  refine q_getf rfl rfl (by decide) (FW_1 S hW) rfl ?_
  refine q_iload_n rfl rfl rfl ?_
  refine q_iald rfl rfl (by decide) (FW_2 S hW) (by decide) (q_tn (z := 0) rfl ?_)
  refine q_nS3 rfl rfl (Or.inl rfl) rfl rfl ⟨rfl, rfl⟩ rfl ?_
  change PQ _ _ _ mm_X0_withPlace 0 [.long 0, pm_un, .int 2, .int 0, pm_un] [] _ _ 0 0 _
  refine q_bipush rfl rfl ?_
  refine q_iconst rfl rfl ?_
  refine q_iload_n rfl rfl rfl ?_
  refine q_imul rfl rfl (q_tn (z := 8) rfl ?_)
  refine q_iadd rfl rfl (q_tn (z := 44) rfl ?_)
  refine q_ist4 rfl rfl rfl rfl ?_
  refine q_lload_n rfl rfl rfl ?_
  refine q_ldc2 rfl rfl ?_
  refine q_iload rfl rfl rfl ?_
  refine q_lshl rfl rfl (q_tnl (z := 263882790666240) rfl ?_)
  refine q_ldc2 rfl rfl ?_
  refine q_lxor rfl rfl (q_tnl (z := (-263882790666241)) rfl ?_)
  refine q_land rfl rfl (q_tnl (z := 0) rfl ?_)
  refine q_iload_n rfl rfl rfl ?_
  refine q_i2l rfl rfl (q_tnl (z := 0) rfl ?_)
  refine q_iload rfl rfl rfl ?_
  refine q_lshl rfl rfl (q_tnl (z := 0) rfl ?_)
  refine q_lor rfl rfl (q_tnl (z := 0) rfl ?_)
  refine q_lret rfl rfl trivial ?_
  refine ⟨_, rfl, ?_⟩
  refine q_lst1n rfl rfl rfl rfl ?_
  refine q_icc3 (z := 3) rfl rfl rfl rfl rfl ?_
  refine q_goto rfl ?_
  refine q_iload_n rfl rfl rfl ?_
  refine q_iconst rfl rfl ?_
  refine q_icge rfl rfl (fun c4 => absurd c4 (by decide)) (fun c4 => ?_)
  refine q_lload_n rfl rfl rfl ?_
  refine q_iload_n rfl rfl rfl ?_
  refine q_aload_n rfl rfl rfl ?_
  refine q_getf rfl rfl (by decide) (FW_7 S hW) rfl ?_
  refine q_getf rfl rfl (by decide) (FW_1 S hW) rfl ?_
  refine q_iload_n rfl rfl rfl ?_
  refine q_iald rfl rfl (by decide) (FW_2 S hW) (by decide) (q_tn (z := 0) rfl ?_)
  refine q_nS3 rfl rfl (Or.inl rfl) rfl rfl ⟨rfl, rfl⟩ rfl ?_
  change PQ _ _ _ mm_X0_withPlace 0 [.long 0, pm_un, .int 3, .int 0, pm_un] [] _ _ 0 0 _
  refine q_bipush rfl rfl ?_
  refine q_iconst rfl rfl ?_
  refine q_iload_n rfl rfl rfl ?_
  refine q_imul rfl rfl (q_tn (z := 12) rfl ?_)
  refine q_iadd rfl rfl (q_tn (z := 48) rfl ?_)
  refine q_ist4 rfl rfl rfl rfl ?_
  refine q_lload_n rfl rfl rfl ?_
  refine q_ldc2 rfl rfl ?_
  refine q_iload rfl rfl rfl ?_
  refine q_lshl rfl rfl (q_tnl (z := 4222124650659840) rfl ?_)
  refine q_ldc2 rfl rfl ?_
  refine q_lxor rfl rfl (q_tnl (z := (-4222124650659841)) rfl ?_)
  refine q_land rfl rfl (q_tnl (z := 0) rfl ?_)
  refine q_iload_n rfl rfl rfl ?_
  refine q_i2l rfl rfl (q_tnl (z := 0) rfl ?_)
  refine q_iload rfl rfl rfl ?_
  refine q_lshl rfl rfl (q_tnl (z := 0) rfl ?_)
  refine q_lor rfl rfl (q_tnl (z := 0) rfl ?_)
  refine q_lret rfl rfl trivial ?_
  refine ⟨_, rfl, ?_⟩
  refine q_lst1n rfl rfl rfl rfl ?_
  refine q_icc3 (z := 4) rfl rfl rfl rfl rfl ?_
  refine q_goto rfl ?_
  refine q_iload_n rfl rfl rfl ?_
  refine q_iconst rfl rfl ?_
  refine q_icge rfl rfl (fun c5 => ?_) (fun c5 => absurd (by decide) c5)
  refine q_lload_n rfl rfl rfl ?_
  refine q_lret rfl rfl trivial ?_
  refine ⟨_, rfl, ?_⟩
  refine q_nV1 rfl rfl (Or.inl rfl) rfl rfl rfl (by decide) (FW_0 S hW) ⟨rfl, rfl⟩ rfl ?_
  change PQ _ _ _ mm_X11_movedRunTo 0 [.ref 0, .long 0, pm_un] [] _ _ 0 0 _
  refine q_aload_n rfl rfl rfl ?_
  refine q_getf rfl rfl (by decide) (FW_0 S hW) rfl ?_
  refine q_lload_n rfl rfl rfl ?_
  refine q_lcmp rfl rfl (q_tn (z := 0) rfl ?_)
  refine q_ifne rfl rfl (fun c6 => ?_) (fun c6 => absurd (by decide) c6)
  refine q_iconst rfl rfl ?_
  refine q_iret rfl rfl trivial ?_
  refine ⟨_, rfl, ?_⟩
  refine q_iret rfl rfl trivial ?_
  refine ⟨_, rfl, ?_⟩
  refine q_aload_n rfl rfl rfl ?_
  refine q_nV0 rfl rfl (Or.inl rfl) rfl rfl rfl (by decide) (FW_46 S hW) ⟨rfl, rfl⟩ rfl ?_
  change PQ _ _ _ mm_X12_start 0 [.ref 46] [] _ _ 0 0 _
  refine q_aload_n rfl rfl rfl ?_
  refine q_iconst rfl rfl ?_
  refine q_putf rfl rfl (by decide) (FW_46 S hW) (by decide) rfl trivial ?_
  refine q_aload_n rfl rfl rfl ?_
  refine q_nV0v rfl rfl (Or.inl rfl) rfl rfl rfl (by decide) rfl ⟨rfl, rfl⟩ rfl ?_
  change PQ _ _ _ mm_X12_firstState 0 [.ref 46, pm_un] [] _ _ 0 0 _
  refine q_iconst rfl rfl ?_
  refine q_ist1n rfl rfl rfl rfl ?_
  refine q_iload_n rfl rfl rfl ?_
  refine q_bipush rfl rfl ?_
  refine q_icge rfl rfl (fun c7 => absurd c7 (by decide)) (fun c7 => ?_)
  refine q_aload_n rfl rfl rfl ?_
  refine q_getf rfl rfl (by decide) rfl rfl ?_
  refine q_iload_n rfl rfl rfl ?_
  refine q_iconst rfl rfl ?_
  refine q_iast rfl rfl (by decide) (FW_52 S hW) (by decide) ?_
  refine q_icc1 (z := 1) rfl rfl rfl rfl rfl ?_
  refine q_goto rfl ?_
  refine q_iload_n rfl rfl rfl ?_
  refine q_bipush rfl rfl ?_
  refine q_icge rfl rfl (fun c8 => absurd c8 (by decide)) (fun c8 => ?_)
  refine q_aload_n rfl rfl rfl ?_
  refine q_getf rfl rfl (by decide) rfl rfl ?_
  refine q_iload_n rfl rfl rfl ?_
  refine q_iconst rfl rfl ?_
  refine q_iast rfl rfl (by decide) rfl (by decide) ?_
  refine q_icc1 (z := 2) rfl rfl rfl rfl rfl ?_
  refine q_goto rfl ?_
  refine q_iload_n rfl rfl rfl ?_
  refine q_bipush rfl rfl ?_
  refine q_icge rfl rfl (fun c9 => absurd c9 (by decide)) (fun c9 => ?_)
  refine q_aload_n rfl rfl rfl ?_
  refine q_getf rfl rfl (by decide) rfl rfl ?_
  refine q_iload_n rfl rfl rfl ?_
  refine q_iconst rfl rfl ?_
  refine q_iast rfl rfl (by decide) rfl (by decide) ?_
  refine q_icc1 (z := 3) rfl rfl rfl rfl rfl ?_
  refine q_goto rfl ?_
  refine q_iload_n rfl rfl rfl ?_
  refine q_bipush rfl rfl ?_
  refine q_icge rfl rfl (fun c10 => absurd c10 (by decide)) (fun c10 => ?_)
  refine q_aload_n rfl rfl rfl ?_
  refine q_getf rfl rfl (by decide) rfl rfl ?_
  refine q_iload_n rfl rfl rfl ?_
  refine q_iconst rfl rfl ?_
  refine q_iast rfl rfl (by decide) rfl (by decide) ?_
  refine q_icc1 (z := 4) rfl rfl rfl rfl rfl ?_
  refine q_goto rfl ?_
  refine q_iload_n rfl rfl rfl ?_
  refine q_bipush rfl rfl ?_
  refine q_icge rfl rfl (fun c11 => absurd c11 (by decide)) (fun c11 => ?_)
  refine q_aload_n rfl rfl rfl ?_
  refine q_getf rfl rfl (by decide) rfl rfl ?_
  refine q_iload_n rfl rfl rfl ?_
  refine q_iconst rfl rfl ?_
  refine q_iast rfl rfl (by decide) rfl (by decide) ?_
  refine q_icc1 (z := 5) rfl rfl rfl rfl rfl ?_
  refine q_goto rfl ?_
  refine q_iload_n rfl rfl rfl ?_
  refine q_bipush rfl rfl ?_
  refine q_icge rfl rfl (fun c12 => absurd c12 (by decide)) (fun c12 => ?_)
  refine q_aload_n rfl rfl rfl ?_
  refine q_getf rfl rfl (by decide) rfl rfl ?_
  refine q_iload_n rfl rfl rfl ?_
  refine q_iconst rfl rfl ?_
  refine q_iast rfl rfl (by decide) rfl (by decide) ?_
  refine q_icc1 (z := 6) rfl rfl rfl rfl rfl ?_
  refine q_goto rfl ?_
  refine q_iload_n rfl rfl rfl ?_
  refine q_bipush rfl rfl ?_
  refine q_icge rfl rfl (fun c13 => absurd c13 (by decide)) (fun c13 => ?_)
  refine q_aload_n rfl rfl rfl ?_
  refine q_getf rfl rfl (by decide) rfl rfl ?_
  refine q_iload_n rfl rfl rfl ?_
  refine q_iconst rfl rfl ?_
  refine q_iast rfl rfl (by decide) rfl (by decide) ?_
  refine q_icc1 (z := 7) rfl rfl rfl rfl rfl ?_
  refine q_goto rfl ?_
  refine q_iload_n rfl rfl rfl ?_
  refine q_bipush rfl rfl ?_
  refine q_icge rfl rfl (fun c14 => absurd c14 (by decide)) (fun c14 => ?_)
  refine q_aload_n rfl rfl rfl ?_
  refine q_getf rfl rfl (by decide) rfl rfl ?_
  refine q_iload_n rfl rfl rfl ?_
  refine q_iconst rfl rfl ?_
  refine q_iast rfl rfl (by decide) rfl (by decide) ?_
  refine q_icc1 (z := 8) rfl rfl rfl rfl rfl ?_
  refine q_goto rfl ?_
  refine q_iload_n rfl rfl rfl ?_
  refine q_bipush rfl rfl ?_
  refine q_icge rfl rfl (fun c15 => absurd c15 (by decide)) (fun c15 => ?_)
  refine q_aload_n rfl rfl rfl ?_
  refine q_getf rfl rfl (by decide) rfl rfl ?_
  refine q_iload_n rfl rfl rfl ?_
  refine q_iconst rfl rfl ?_
  refine q_iast rfl rfl (by decide) rfl (by decide) ?_
  refine q_icc1 (z := 9) rfl rfl rfl rfl rfl ?_
  refine q_goto rfl ?_
  refine q_iload_n rfl rfl rfl ?_
  refine q_bipush rfl rfl ?_
  refine q_icge rfl rfl (fun c16 => absurd c16 (by decide)) (fun c16 => ?_)
  refine q_aload_n rfl rfl rfl ?_
  refine q_getf rfl rfl (by decide) rfl rfl ?_
  refine q_iload_n rfl rfl rfl ?_
  refine q_iconst rfl rfl ?_
  refine q_iast rfl rfl (by decide) rfl (by decide) ?_
  refine q_icc1 (z := 10) rfl rfl rfl rfl rfl ?_
  refine q_goto rfl ?_
  refine q_iload_n rfl rfl rfl ?_
  refine q_bipush rfl rfl ?_
  refine q_icge rfl rfl (fun c17 => absurd c17 (by decide)) (fun c17 => ?_)
  refine q_aload_n rfl rfl rfl ?_
  refine q_getf rfl rfl (by decide) rfl rfl ?_
  refine q_iload_n rfl rfl rfl ?_
  refine q_iconst rfl rfl ?_
  refine q_iast rfl rfl (by decide) rfl (by decide) ?_
  refine q_icc1 (z := 11) rfl rfl rfl rfl rfl ?_
  refine q_goto rfl ?_
  refine q_iload_n rfl rfl rfl ?_
  refine q_bipush rfl rfl ?_
  refine q_icge rfl rfl (fun c18 => absurd c18 (by decide)) (fun c18 => ?_)
  refine q_aload_n rfl rfl rfl ?_
  refine q_getf rfl rfl (by decide) rfl rfl ?_
  refine q_iload_n rfl rfl rfl ?_
  refine q_iconst rfl rfl ?_
  refine q_iast rfl rfl (by decide) rfl (by decide) ?_
  refine q_icc1 (z := 12) rfl rfl rfl rfl rfl ?_
  refine q_goto rfl ?_
  refine q_iload_n rfl rfl rfl ?_
  refine q_bipush rfl rfl ?_
  refine q_icge rfl rfl (fun c19 => absurd c19 (by decide)) (fun c19 => ?_)
  refine q_aload_n rfl rfl rfl ?_
  refine q_getf rfl rfl (by decide) rfl rfl ?_
  refine q_iload_n rfl rfl rfl ?_
  refine q_iconst rfl rfl ?_
  refine q_iast rfl rfl (by decide) rfl (by decide) ?_
  refine q_icc1 (z := 13) rfl rfl rfl rfl rfl ?_
  refine q_goto rfl ?_
  refine q_iload_n rfl rfl rfl ?_
  refine q_bipush rfl rfl ?_
  refine q_icge rfl rfl (fun c20 => absurd c20 (by decide)) (fun c20 => ?_)
  refine q_aload_n rfl rfl rfl ?_
  refine q_getf rfl rfl (by decide) rfl rfl ?_
  refine q_iload_n rfl rfl rfl ?_
  refine q_iconst rfl rfl ?_
  refine q_iast rfl rfl (by decide) rfl (by decide) ?_
  refine q_icc1 (z := 14) rfl rfl rfl rfl rfl ?_
  refine q_goto rfl ?_
  refine q_iload_n rfl rfl rfl ?_
  refine q_bipush rfl rfl ?_
  refine q_icge rfl rfl (fun c21 => absurd c21 (by decide)) (fun c21 => ?_)
  refine q_aload_n rfl rfl rfl ?_
  refine q_getf rfl rfl (by decide) rfl rfl ?_
  refine q_iload_n rfl rfl rfl ?_
  refine q_iconst rfl rfl ?_
  refine q_iast rfl rfl (by decide) rfl (by decide) ?_
  refine q_icc1 (z := 15) rfl rfl rfl rfl rfl ?_
  refine q_goto rfl ?_
  refine q_iload_n rfl rfl rfl ?_
  refine q_bipush rfl rfl ?_
  refine q_icge rfl rfl (fun c22 => absurd c22 (by decide)) (fun c22 => ?_)
  refine q_aload_n rfl rfl rfl ?_
  refine q_getf rfl rfl (by decide) rfl rfl ?_
  refine q_iload_n rfl rfl rfl ?_
  refine q_iconst rfl rfl ?_
  refine q_iast rfl rfl (by decide) rfl (by decide) ?_
  refine q_icc1 (z := 16) rfl rfl rfl rfl rfl ?_
  refine q_goto rfl ?_
  refine q_iload_n rfl rfl rfl ?_
  refine q_bipush rfl rfl ?_
  refine q_icge rfl rfl (fun c23 => absurd c23 (by decide)) (fun c23 => ?_)
  refine q_aload_n rfl rfl rfl ?_
  refine q_getf rfl rfl (by decide) rfl rfl ?_
  refine q_iload_n rfl rfl rfl ?_
  refine q_iconst rfl rfl ?_
  refine q_iast rfl rfl (by decide) rfl (by decide) ?_
  refine q_icc1 (z := 17) rfl rfl rfl rfl rfl ?_
  refine q_goto rfl ?_
  refine q_iload_n rfl rfl rfl ?_
  refine q_bipush rfl rfl ?_
  refine q_icge rfl rfl (fun c24 => absurd c24 (by decide)) (fun c24 => ?_)
  refine q_aload_n rfl rfl rfl ?_
  refine q_getf rfl rfl (by decide) rfl rfl ?_
  refine q_iload_n rfl rfl rfl ?_
  refine q_iconst rfl rfl ?_
  refine q_iast rfl rfl (by decide) rfl (by decide) ?_
  refine q_icc1 (z := 18) rfl rfl rfl rfl rfl ?_
  refine q_goto rfl ?_
  refine q_iload_n rfl rfl rfl ?_
  refine q_bipush rfl rfl ?_
  refine q_icge rfl rfl (fun c25 => absurd c25 (by decide)) (fun c25 => ?_)
  refine q_aload_n rfl rfl rfl ?_
  refine q_getf rfl rfl (by decide) rfl rfl ?_
  refine q_iload_n rfl rfl rfl ?_
  refine q_iconst rfl rfl ?_
  refine q_iast rfl rfl (by decide) rfl (by decide) ?_
  refine q_icc1 (z := 19) rfl rfl rfl rfl rfl ?_
  refine q_goto rfl ?_
  refine q_iload_n rfl rfl rfl ?_
  refine q_bipush rfl rfl ?_
  refine q_icge rfl rfl (fun c26 => absurd c26 (by decide)) (fun c26 => ?_)
  refine q_aload_n rfl rfl rfl ?_
  refine q_getf rfl rfl (by decide) rfl rfl ?_
  refine q_iload_n rfl rfl rfl ?_
  refine q_iconst rfl rfl ?_
  refine q_iast rfl rfl (by decide) rfl (by decide) ?_
  refine q_icc1 (z := 20) rfl rfl rfl rfl rfl ?_
  refine q_goto rfl ?_
  refine q_iload_n rfl rfl rfl ?_
  refine q_bipush rfl rfl ?_
  refine q_icge rfl rfl (fun c27 => ?_) (fun c27 => absurd (by decide) c27)
  refine q_iconst rfl rfl ?_
  refine q_ist1n rfl rfl rfl rfl ?_
  refine q_iload_n rfl rfl rfl ?_
  refine q_aload_n rfl rfl rfl ?_
  refine q_getf rfl rfl (by decide) rfl rfl ?_
  refine q_icge rfl rfl (fun c28 => absurd c28 (by decide)) (fun c28 => ?_)
  refine q_aload_n rfl rfl rfl ?_
  refine q_getf rfl rfl (by decide) rfl rfl ?_
  refine q_iconst rfl rfl ?_
  refine q_iload_n rfl rfl rfl ?_
  refine q_imul rfl rfl (q_tn (z := 0) rfl ?_)
  refine q_aload_n rfl rfl rfl ?_
  refine q_getf rfl rfl (by decide) rfl rfl ?_
  refine q_aload_n rfl rfl rfl ?_
  refine q_getf rfl rfl (by decide) rfl rfl ?_
  refine q_iload_n rfl rfl rfl ?_
  refine q_iadd rfl rfl (q_tn (z := 0) rfl ?_)
  refine q_iald rfl rfl (by decide) (FW_47 S hW) (by decide) (q_tn (z := 0) rfl ?_)
  refine q_ifne rfl rfl (fun c29 => ?_) (fun c29 => absurd (by decide) c29)
  refine q_bipush rfl rfl ?_
  refine q_goto rfl ?_
  refine q_iast rfl rfl (by decide) rfl (by decide) ?_
  refine q_icc1 (z := 1) rfl rfl rfl rfl rfl ?_
  refine q_goto rfl ?_
  refine q_iload_n rfl rfl rfl ?_
  refine q_aload_n rfl rfl rfl ?_
  refine q_getf rfl rfl (by decide) rfl rfl ?_
  refine q_icge rfl rfl (fun c30 => ?_) (fun c30 => absurd (by decide) c30)
  refine q_iconst rfl rfl ?_
  refine q_ist1n rfl rfl rfl rfl ?_
  refine q_iload_n rfl rfl rfl ?_
  refine q_iconst rfl rfl ?_
  refine q_icge rfl rfl (fun c31 => absurd c31 (by decide)) (fun c31 => ?_)
  refine q_aload_n rfl rfl rfl ?_
  refine q_getf rfl rfl (by decide) rfl rfl ?_
  refine q_bipush rfl rfl ?_
  refine q_iload_n rfl rfl rfl ?_
  refine q_iadd rfl rfl (q_tn (z := 12) rfl ?_)
  refine q_aload_n rfl rfl rfl ?_
  refine q_getf rfl rfl (by decide) rfl rfl ?_
  refine q_iload_n rfl rfl rfl ?_
  refine q_iald rfl rfl (by decide) (FW_51 S hW) (by decide) (q_tn (z := 0) rfl ?_)
  refine q_iast rfl rfl (by decide) rfl (by decide) ?_
  refine q_icc1 (z := 1) rfl rfl rfl rfl rfl ?_
  refine q_goto rfl ?_
  refine q_iload_n rfl rfl rfl ?_
  refine q_iconst rfl rfl ?_
  refine q_icge rfl rfl (fun c32 => absurd c32 (by decide)) (fun c32 => ?_)
  refine q_aload_n rfl rfl rfl ?_
  refine q_getf rfl rfl (by decide) rfl rfl ?_
  refine q_bipush rfl rfl ?_
  refine q_iload_n rfl rfl rfl ?_
  refine q_iadd rfl rfl (q_tn (z := 13) rfl ?_)
  refine q_aload_n rfl rfl rfl ?_
  refine q_getf rfl rfl (by decide) rfl rfl ?_
  refine q_iload_n rfl rfl rfl ?_
  refine q_iald rfl rfl (by decide) (FW_51 S hW) (by decide) (q_tn (z := 0) rfl ?_)
  refine q_iast rfl rfl (by decide) rfl (by decide) ?_
  refine q_icc1 (z := 2) rfl rfl rfl rfl rfl ?_
  refine q_goto rfl ?_
  refine q_iload_n rfl rfl rfl ?_
  refine q_iconst rfl rfl ?_
  refine q_icge rfl rfl (fun c33 => absurd c33 (by decide)) (fun c33 => ?_)
  refine q_aload_n rfl rfl rfl ?_
  refine q_getf rfl rfl (by decide) rfl rfl ?_
  refine q_bipush rfl rfl ?_
  refine q_iload_n rfl rfl rfl ?_
  refine q_iadd rfl rfl (q_tn (z := 14) rfl ?_)
  refine q_aload_n rfl rfl rfl ?_
  refine q_getf rfl rfl (by decide) rfl rfl ?_
  refine q_iload_n rfl rfl rfl ?_
  refine q_iald rfl rfl (by decide) (FW_51 S hW) (by decide) (q_tn (z := 0) rfl ?_)
  refine q_iast rfl rfl (by decide) rfl (by decide) ?_
  refine q_icc1 (z := 3) rfl rfl rfl rfl rfl ?_
  refine q_goto rfl ?_
  refine q_iload_n rfl rfl rfl ?_
  refine q_iconst rfl rfl ?_
  refine q_icge rfl rfl (fun c34 => absurd c34 (by decide)) (fun c34 => ?_)
  refine q_aload_n rfl rfl rfl ?_
  refine q_getf rfl rfl (by decide) rfl rfl ?_
  refine q_bipush rfl rfl ?_
  refine q_iload_n rfl rfl rfl ?_
  refine q_iadd rfl rfl (q_tn (z := 15) rfl ?_)
  refine q_aload_n rfl rfl rfl ?_
  refine q_getf rfl rfl (by decide) rfl rfl ?_
  refine q_iload_n rfl rfl rfl ?_
  refine q_iald rfl rfl (by decide) (FW_51 S hW) (by decide) (q_tn (z := 0) rfl ?_)
  refine q_iast rfl rfl (by decide) rfl (by decide) ?_
  refine q_icc1 (z := 4) rfl rfl rfl rfl rfl ?_
  refine q_goto rfl ?_
  refine q_iload_n rfl rfl rfl ?_
  refine q_iconst rfl rfl ?_
  refine q_icge rfl rfl (fun c35 => ?_) (fun c35 => absurd (by decide) c35)
  refine q_ret rfl rfl ?_
  refine ⟨rfl, ?_⟩
  refine q_aload_n rfl rfl rfl ?_
  refine q_nV0 rfl rfl (Or.inl rfl) rfl rfl rfl (by decide) rfl ⟨rfl, rfl⟩ rfl ?_
  change PQ _ _ _ mm_X12_settle 0 [.ref 46, pm_un] [] _ _ 0 0 _
  refine q_aload_n rfl rfl rfl ?_
  refine q_nV0 rfl rfl (Or.inl rfl) rfl rfl rfl (by decide) rfl ⟨rfl, rfl⟩ rfl ?_
  change PQ _ _ _ mm_X12_isRun 0 [.ref 46, pm_un, pm_un] [] _ _ 0 0 _
  refine q_iconst rfl rfl ?_
  refine q_ist1n rfl rfl rfl rfl ?_
  refine q_iconst rfl rfl ?_
  refine q_ist2n rfl rfl rfl rfl ?_
  refine q_iload_n rfl rfl rfl ?_
  refine q_bipush rfl rfl ?_
  refine q_icge rfl rfl (fun c36 => absurd c36 (by decide)) (fun c36 => ?_)
  refine q_iload_n rfl rfl rfl ?_
  refine q_ifeq rfl rfl (fun c37 => absurd c37 (by decide)) (fun c37 => ?_)
  refine q_aload_n rfl rfl rfl ?_
  refine q_getf rfl rfl (by decide) rfl rfl ?_
  refine q_iload_n rfl rfl rfl ?_
  refine q_iald rfl rfl (by decide) rfl (by decide) (q_tn (z := 10) rfl ?_)
  refine q_aload_n rfl rfl rfl ?_
  refine q_getf rfl rfl (by decide) rfl rfl ?_
  refine q_iload_n rfl rfl rfl ?_
  refine q_iald rfl rfl (by decide) (FW_54 S hW) (by decide) (q_tn (z := 10) rfl ?_)
  refine q_icne rfl rfl (fun c38 => ?_) (fun c38 => absurd (by decide) c38)
  refine q_iconst rfl rfl ?_
  refine q_goto rfl ?_
  refine q_ist1n rfl rfl rfl rfl ?_
  refine q_icc2 (z := 1) rfl rfl rfl rfl rfl ?_
  refine q_goto rfl ?_
  refine q_iload_n rfl rfl rfl ?_
  refine q_bipush rfl rfl ?_
  refine q_icge rfl rfl (fun c39 => absurd c39 (by decide)) (fun c39 => ?_)
  refine q_iload_n rfl rfl rfl ?_
  refine q_ifeq rfl rfl (fun c40 => absurd c40 (by decide)) (fun c40 => ?_)
  refine q_aload_n rfl rfl rfl ?_
  refine q_getf rfl rfl (by decide) rfl rfl ?_
  refine q_iload_n rfl rfl rfl ?_
  refine q_iald rfl rfl (by decide) rfl (by decide) (q_tn (z := 0) rfl ?_)
  refine q_aload_n rfl rfl rfl ?_
  refine q_getf rfl rfl (by decide) rfl rfl ?_
  refine q_iload_n rfl rfl rfl ?_
  refine q_iald rfl rfl (by decide) (FW_54 S hW) (by decide) (q_tn (z := 0) rfl ?_)
  refine q_icne rfl rfl (fun c41 => ?_) (fun c41 => absurd (by decide) c41)
  refine q_iconst rfl rfl ?_
  refine q_goto rfl ?_
  refine q_ist1n rfl rfl rfl rfl ?_
  refine q_icc2 (z := 2) rfl rfl rfl rfl rfl ?_
  refine q_goto rfl ?_
  refine q_iload_n rfl rfl rfl ?_
  refine q_bipush rfl rfl ?_
  refine q_icge rfl rfl (fun c42 => absurd c42 (by decide)) (fun c42 => ?_)
  refine q_iload_n rfl rfl rfl ?_
  refine q_ifeq rfl rfl (fun c43 => absurd c43 (by decide)) (fun c43 => ?_)
  refine q_aload_n rfl rfl rfl ?_
  refine q_getf rfl rfl (by decide) rfl rfl ?_
  refine q_iload_n rfl rfl rfl ?_
  refine q_iald rfl rfl (by decide) rfl (by decide) (q_tn (z := 0) rfl ?_)
  refine q_aload_n rfl rfl rfl ?_
  refine q_getf rfl rfl (by decide) rfl rfl ?_
  refine q_iload_n rfl rfl rfl ?_
  refine q_iald rfl rfl (by decide) (FW_54 S hW) (by decide) (q_tn (z := 0) rfl ?_)
  refine q_icne rfl rfl (fun c44 => ?_) (fun c44 => absurd (by decide) c44)
  refine q_iconst rfl rfl ?_
  refine q_goto rfl ?_
  refine q_ist1n rfl rfl rfl rfl ?_
  refine q_icc2 (z := 3) rfl rfl rfl rfl rfl ?_
  refine q_goto rfl ?_
  refine q_iload_n rfl rfl rfl ?_
  refine q_bipush rfl rfl ?_
  refine q_icge rfl rfl (fun c45 => absurd c45 (by decide)) (fun c45 => ?_)
  refine q_iload_n rfl rfl rfl ?_
  refine q_ifeq rfl rfl (fun c46 => absurd c46 (by decide)) (fun c46 => ?_)
  refine q_aload_n rfl rfl rfl ?_
  refine q_getf rfl rfl (by decide) rfl rfl ?_
  refine q_iload_n rfl rfl rfl ?_
  refine q_iald rfl rfl (by decide) rfl (by decide) (q_tn (z := 0) rfl ?_)
  refine q_aload_n rfl rfl rfl ?_
  refine q_getf rfl rfl (by decide) rfl rfl ?_
  refine q_iload_n rfl rfl rfl ?_
  refine q_iald rfl rfl (by decide) (FW_54 S hW) (by decide) (q_tn (z := 0) rfl ?_)
  refine q_icne rfl rfl (fun c47 => ?_) (fun c47 => absurd (by decide) c47)
  refine q_iconst rfl rfl ?_
  refine q_goto rfl ?_
  refine q_ist1n rfl rfl rfl rfl ?_
  refine q_icc2 (z := 4) rfl rfl rfl rfl rfl ?_
  refine q_goto rfl ?_
  refine q_iload_n rfl rfl rfl ?_
  refine q_bipush rfl rfl ?_
  refine q_icge rfl rfl (fun c48 => absurd c48 (by decide)) (fun c48 => ?_)
  refine q_iload_n rfl rfl rfl ?_
  refine q_ifeq rfl rfl (fun c49 => absurd c49 (by decide)) (fun c49 => ?_)
  refine q_aload_n rfl rfl rfl ?_
  refine q_getf rfl rfl (by decide) rfl rfl ?_
  refine q_iload_n rfl rfl rfl ?_
  refine q_iald rfl rfl (by decide) rfl (by decide) (q_tn (z := 0) rfl ?_)
  refine q_aload_n rfl rfl rfl ?_
  refine q_getf rfl rfl (by decide) rfl rfl ?_
  refine q_iload_n rfl rfl rfl ?_
  refine q_iald rfl rfl (by decide) (FW_54 S hW) (by decide) (q_tn (z := 0) rfl ?_)
  refine q_icne rfl rfl (fun c50 => ?_) (fun c50 => absurd (by decide) c50)
  refine q_iconst rfl rfl ?_
  refine q_goto rfl ?_
  refine q_ist1n rfl rfl rfl rfl ?_
  refine q_icc2 (z := 5) rfl rfl rfl rfl rfl ?_
  refine q_goto rfl ?_
  refine q_iload_n rfl rfl rfl ?_
  refine q_bipush rfl rfl ?_
  refine q_icge rfl rfl (fun c51 => absurd c51 (by decide)) (fun c51 => ?_)
  refine q_iload_n rfl rfl rfl ?_
  refine q_ifeq rfl rfl (fun c52 => absurd c52 (by decide)) (fun c52 => ?_)
  refine q_aload_n rfl rfl rfl ?_
  refine q_getf rfl rfl (by decide) rfl rfl ?_
  refine q_iload_n rfl rfl rfl ?_
  refine q_iald rfl rfl (by decide) rfl (by decide) (q_tn (z := 0) rfl ?_)
  refine q_aload_n rfl rfl rfl ?_
  refine q_getf rfl rfl (by decide) rfl rfl ?_
  refine q_iload_n rfl rfl rfl ?_
  refine q_iald rfl rfl (by decide) (FW_54 S hW) (by decide) (q_tn (z := 0) rfl ?_)
  refine q_icne rfl rfl (fun c53 => ?_) (fun c53 => absurd (by decide) c53)
  refine q_iconst rfl rfl ?_
  refine q_goto rfl ?_
  refine q_ist1n rfl rfl rfl rfl ?_
  refine q_icc2 (z := 6) rfl rfl rfl rfl rfl ?_
  refine q_goto rfl ?_
  refine q_iload_n rfl rfl rfl ?_
  refine q_bipush rfl rfl ?_
  refine q_icge rfl rfl (fun c54 => absurd c54 (by decide)) (fun c54 => ?_)
  refine q_iload_n rfl rfl rfl ?_
  refine q_ifeq rfl rfl (fun c55 => absurd c55 (by decide)) (fun c55 => ?_)
  refine q_aload_n rfl rfl rfl ?_
  refine q_getf rfl rfl (by decide) rfl rfl ?_
  refine q_iload_n rfl rfl rfl ?_
  refine q_iald rfl rfl (by decide) rfl (by decide) (q_tn (z := 0) rfl ?_)
  refine q_aload_n rfl rfl rfl ?_
  refine q_getf rfl rfl (by decide) rfl rfl ?_
  refine q_iload_n rfl rfl rfl ?_
  refine q_iald rfl rfl (by decide) (FW_54 S hW) (by decide) (q_tn (z := 0) rfl ?_)
  refine q_icne rfl rfl (fun c56 => ?_) (fun c56 => absurd (by decide) c56)
  refine q_iconst rfl rfl ?_
  refine q_goto rfl ?_
  refine q_ist1n rfl rfl rfl rfl ?_
  refine q_icc2 (z := 7) rfl rfl rfl rfl rfl ?_
  refine q_goto rfl ?_
  refine q_iload_n rfl rfl rfl ?_
  refine q_bipush rfl rfl ?_
  refine q_icge rfl rfl (fun c57 => absurd c57 (by decide)) (fun c57 => ?_)
  refine q_iload_n rfl rfl rfl ?_
  refine q_ifeq rfl rfl (fun c58 => absurd c58 (by decide)) (fun c58 => ?_)
  refine q_aload_n rfl rfl rfl ?_
  refine q_getf rfl rfl (by decide) rfl rfl ?_
  refine q_iload_n rfl rfl rfl ?_
  refine q_iald rfl rfl (by decide) rfl (by decide) (q_tn (z := 0) rfl ?_)
  refine q_aload_n rfl rfl rfl ?_
  refine q_getf rfl rfl (by decide) rfl rfl ?_
  refine q_iload_n rfl rfl rfl ?_
  refine q_iald rfl rfl (by decide) (FW_54 S hW) (by decide) (q_tn (z := 0) rfl ?_)
  refine q_icne rfl rfl (fun c59 => ?_) (fun c59 => absurd (by decide) c59)
  refine q_iconst rfl rfl ?_
  refine q_goto rfl ?_
  refine q_ist1n rfl rfl rfl rfl ?_
  refine q_icc2 (z := 8) rfl rfl rfl rfl rfl ?_
  refine q_goto rfl ?_
  refine q_iload_n rfl rfl rfl ?_
  refine q_bipush rfl rfl ?_
  refine q_icge rfl rfl (fun c60 => absurd c60 (by decide)) (fun c60 => ?_)
  refine q_iload_n rfl rfl rfl ?_
  refine q_ifeq rfl rfl (fun c61 => absurd c61 (by decide)) (fun c61 => ?_)
  refine q_aload_n rfl rfl rfl ?_
  refine q_getf rfl rfl (by decide) rfl rfl ?_
  refine q_iload_n rfl rfl rfl ?_
  refine q_iald rfl rfl (by decide) rfl (by decide) (q_tn (z := 0) rfl ?_)
  refine q_aload_n rfl rfl rfl ?_
  refine q_getf rfl rfl (by decide) rfl rfl ?_
  refine q_iload_n rfl rfl rfl ?_
  refine q_iald rfl rfl (by decide) (FW_54 S hW) (by decide) (q_tn (z := 0) rfl ?_)
  refine q_icne rfl rfl (fun c62 => ?_) (fun c62 => absurd (by decide) c62)
  refine q_iconst rfl rfl ?_
  refine q_goto rfl ?_
  refine q_ist1n rfl rfl rfl rfl ?_
  refine q_icc2 (z := 9) rfl rfl rfl rfl rfl ?_
  refine q_goto rfl ?_
  refine q_iload_n rfl rfl rfl ?_
  refine q_bipush rfl rfl ?_
  refine q_icge rfl rfl (fun c63 => absurd c63 (by decide)) (fun c63 => ?_)
  refine q_iload_n rfl rfl rfl ?_
  refine q_ifeq rfl rfl (fun c64 => absurd c64 (by decide)) (fun c64 => ?_)
  refine q_aload_n rfl rfl rfl ?_
  refine q_getf rfl rfl (by decide) rfl rfl ?_
  refine q_iload_n rfl rfl rfl ?_
  refine q_iald rfl rfl (by decide) rfl (by decide) (q_tn (z := 0) rfl ?_)
  refine q_aload_n rfl rfl rfl ?_
  refine q_getf rfl rfl (by decide) rfl rfl ?_
  refine q_iload_n rfl rfl rfl ?_
  refine q_iald rfl rfl (by decide) (FW_54 S hW) (by decide) (q_tn (z := 0) rfl ?_)
  refine q_icne rfl rfl (fun c65 => ?_) (fun c65 => absurd (by decide) c65)
  refine q_iconst rfl rfl ?_
  refine q_goto rfl ?_
  refine q_ist1n rfl rfl rfl rfl ?_
  refine q_icc2 (z := 10) rfl rfl rfl rfl rfl ?_
  refine q_goto rfl ?_
  refine q_iload_n rfl rfl rfl ?_
  refine q_bipush rfl rfl ?_
  refine q_icge rfl rfl (fun c66 => absurd c66 (by decide)) (fun c66 => ?_)
  refine q_iload_n rfl rfl rfl ?_
  refine q_ifeq rfl rfl (fun c67 => absurd c67 (by decide)) (fun c67 => ?_)
  refine q_aload_n rfl rfl rfl ?_
  refine q_getf rfl rfl (by decide) rfl rfl ?_
  refine q_iload_n rfl rfl rfl ?_
  refine q_iald rfl rfl (by decide) rfl (by decide) (q_tn (z := 0) rfl ?_)
  refine q_aload_n rfl rfl rfl ?_
  refine q_getf rfl rfl (by decide) rfl rfl ?_
  refine q_iload_n rfl rfl rfl ?_
  refine q_iald rfl rfl (by decide) (FW_54 S hW) (by decide) (q_tn (z := 0) rfl ?_)
  refine q_icne rfl rfl (fun c68 => ?_) (fun c68 => absurd (by decide) c68)
  refine q_iconst rfl rfl ?_
  refine q_goto rfl ?_
  refine q_ist1n rfl rfl rfl rfl ?_
  refine q_icc2 (z := 11) rfl rfl rfl rfl rfl ?_
  refine q_goto rfl ?_
  refine q_iload_n rfl rfl rfl ?_
  refine q_bipush rfl rfl ?_
  refine q_icge rfl rfl (fun c69 => absurd c69 (by decide)) (fun c69 => ?_)
  refine q_iload_n rfl rfl rfl ?_
  refine q_ifeq rfl rfl (fun c70 => absurd c70 (by decide)) (fun c70 => ?_)
  refine q_aload_n rfl rfl rfl ?_
  refine q_getf rfl rfl (by decide) rfl rfl ?_
  refine q_iload_n rfl rfl rfl ?_
  refine q_iald rfl rfl (by decide) rfl (by decide) (q_tn (z := 0) rfl ?_)
  refine q_aload_n rfl rfl rfl ?_
  refine q_getf rfl rfl (by decide) rfl rfl ?_
  refine q_iload_n rfl rfl rfl ?_
  refine q_iald rfl rfl (by decide) (FW_54 S hW) (by decide) (q_tn (z := 0) rfl ?_)
  refine q_icne rfl rfl (fun c71 => ?_) (fun c71 => absurd (by decide) c71)
  refine q_iconst rfl rfl ?_
  refine q_goto rfl ?_
  refine q_ist1n rfl rfl rfl rfl ?_
  refine q_icc2 (z := 12) rfl rfl rfl rfl rfl ?_
  refine q_goto rfl ?_
  refine q_iload_n rfl rfl rfl ?_
  refine q_bipush rfl rfl ?_
  refine q_icge rfl rfl (fun c72 => absurd c72 (by decide)) (fun c72 => ?_)
  refine q_iload_n rfl rfl rfl ?_
  refine q_ifeq rfl rfl (fun c73 => absurd c73 (by decide)) (fun c73 => ?_)
  refine q_aload_n rfl rfl rfl ?_
  refine q_getf rfl rfl (by decide) rfl rfl ?_
  refine q_iload_n rfl rfl rfl ?_
  refine q_iald rfl rfl (by decide) rfl (by decide) (q_tn (z := 0) rfl ?_)
  refine q_aload_n rfl rfl rfl ?_
  refine q_getf rfl rfl (by decide) rfl rfl ?_
  refine q_iload_n rfl rfl rfl ?_
  refine q_iald rfl rfl (by decide) (FW_54 S hW) (by decide) (q_tn (z := 0) rfl ?_)
  refine q_icne rfl rfl (fun c74 => ?_) (fun c74 => absurd (by decide) c74)
  refine q_iconst rfl rfl ?_
  refine q_goto rfl ?_
  refine q_ist1n rfl rfl rfl rfl ?_
  refine q_icc2 (z := 13) rfl rfl rfl rfl rfl ?_
  refine q_goto rfl ?_
  refine q_iload_n rfl rfl rfl ?_
  refine q_bipush rfl rfl ?_
  refine q_icge rfl rfl (fun c75 => absurd c75 (by decide)) (fun c75 => ?_)
  refine q_iload_n rfl rfl rfl ?_
  refine q_ifeq rfl rfl (fun c76 => absurd c76 (by decide)) (fun c76 => ?_)
  refine q_aload_n rfl rfl rfl ?_
  refine q_getf rfl rfl (by decide) rfl rfl ?_
  refine q_iload_n rfl rfl rfl ?_
  refine q_iald rfl rfl (by decide) rfl (by decide) (q_tn (z := 0) rfl ?_)
  refine q_aload_n rfl rfl rfl ?_
  refine q_getf rfl rfl (by decide) rfl rfl ?_
  refine q_iload_n rfl rfl rfl ?_
  refine q_iald rfl rfl (by decide) (FW_54 S hW) (by decide) (q_tn (z := 0) rfl ?_)
  refine q_icne rfl rfl (fun c77 => ?_) (fun c77 => absurd (by decide) c77)
  refine q_iconst rfl rfl ?_
  refine q_goto rfl ?_
  refine q_ist1n rfl rfl rfl rfl ?_
  refine q_icc2 (z := 14) rfl rfl rfl rfl rfl ?_
  refine q_goto rfl ?_
  refine q_iload_n rfl rfl rfl ?_
  refine q_bipush rfl rfl ?_
  refine q_icge rfl rfl (fun c78 => absurd c78 (by decide)) (fun c78 => ?_)
  refine q_iload_n rfl rfl rfl ?_
  refine q_ifeq rfl rfl (fun c79 => absurd c79 (by decide)) (fun c79 => ?_)
  refine q_aload_n rfl rfl rfl ?_
  refine q_getf rfl rfl (by decide) rfl rfl ?_
  refine q_iload_n rfl rfl rfl ?_
  refine q_iald rfl rfl (by decide) rfl (by decide) (q_tn (z := 0) rfl ?_)
  refine q_aload_n rfl rfl rfl ?_
  refine q_getf rfl rfl (by decide) rfl rfl ?_
  refine q_iload_n rfl rfl rfl ?_
  refine q_iald rfl rfl (by decide) (FW_54 S hW) (by decide) (q_tn (z := 0) rfl ?_)
  refine q_icne rfl rfl (fun c80 => ?_) (fun c80 => absurd (by decide) c80)
  refine q_iconst rfl rfl ?_
  refine q_goto rfl ?_
  refine q_ist1n rfl rfl rfl rfl ?_
  refine q_icc2 (z := 15) rfl rfl rfl rfl rfl ?_
  refine q_goto rfl ?_
  refine q_iload_n rfl rfl rfl ?_
  refine q_bipush rfl rfl ?_
  refine q_icge rfl rfl (fun c81 => absurd c81 (by decide)) (fun c81 => ?_)
  refine q_iload_n rfl rfl rfl ?_
  refine q_ifeq rfl rfl (fun c82 => absurd c82 (by decide)) (fun c82 => ?_)
  refine q_aload_n rfl rfl rfl ?_
  refine q_getf rfl rfl (by decide) rfl rfl ?_
  refine q_iload_n rfl rfl rfl ?_
  refine q_iald rfl rfl (by decide) rfl (by decide) (q_tn (z := 0) rfl ?_)
  refine q_aload_n rfl rfl rfl ?_
  refine q_getf rfl rfl (by decide) rfl rfl ?_
  refine q_iload_n rfl rfl rfl ?_
  refine q_iald rfl rfl (by decide) (FW_54 S hW) (by decide) (q_tn (z := 0) rfl ?_)
  refine q_icne rfl rfl (fun c83 => ?_) (fun c83 => absurd (by decide) c83)
  refine q_iconst rfl rfl ?_
  refine q_goto rfl ?_
  refine q_ist1n rfl rfl rfl rfl ?_
  refine q_icc2 (z := 16) rfl rfl rfl rfl rfl ?_
  refine q_goto rfl ?_
  refine q_iload_n rfl rfl rfl ?_
  refine q_bipush rfl rfl ?_
  refine q_icge rfl rfl (fun c84 => absurd c84 (by decide)) (fun c84 => ?_)
  refine q_iload_n rfl rfl rfl ?_
  refine q_ifeq rfl rfl (fun c85 => absurd c85 (by decide)) (fun c85 => ?_)
  refine q_aload_n rfl rfl rfl ?_
  refine q_getf rfl rfl (by decide) rfl rfl ?_
  refine q_iload_n rfl rfl rfl ?_
  refine q_iald rfl rfl (by decide) rfl (by decide) (q_tn (z := 0) rfl ?_)
  refine q_aload_n rfl rfl rfl ?_
  refine q_getf rfl rfl (by decide) rfl rfl ?_
  refine q_iload_n rfl rfl rfl ?_
  refine q_iald rfl rfl (by decide) (FW_54 S hW) (by decide) (q_tn (z := 0) rfl ?_)
  refine q_icne rfl rfl (fun c86 => ?_) (fun c86 => absurd (by decide) c86)
  refine q_iconst rfl rfl ?_
  refine q_goto rfl ?_
  refine q_ist1n rfl rfl rfl rfl ?_
  refine q_icc2 (z := 17) rfl rfl rfl rfl rfl ?_
  refine q_goto rfl ?_
  refine q_iload_n rfl rfl rfl ?_
  refine q_bipush rfl rfl ?_
  refine q_icge rfl rfl (fun c87 => absurd c87 (by decide)) (fun c87 => ?_)
  refine q_iload_n rfl rfl rfl ?_
  refine q_ifeq rfl rfl (fun c88 => absurd c88 (by decide)) (fun c88 => ?_)
  refine q_aload_n rfl rfl rfl ?_
  refine q_getf rfl rfl (by decide) rfl rfl ?_
  refine q_iload_n rfl rfl rfl ?_
  refine q_iald rfl rfl (by decide) rfl (by decide) (q_tn (z := 0) rfl ?_)
  refine q_aload_n rfl rfl rfl ?_
  refine q_getf rfl rfl (by decide) rfl rfl ?_
  refine q_iload_n rfl rfl rfl ?_
  refine q_iald rfl rfl (by decide) (FW_54 S hW) (by decide) (q_tn (z := 0) rfl ?_)
  refine q_icne rfl rfl (fun c89 => ?_) (fun c89 => absurd (by decide) c89)
  refine q_iconst rfl rfl ?_
  refine q_goto rfl ?_
  refine q_ist1n rfl rfl rfl rfl ?_
  refine q_icc2 (z := 18) rfl rfl rfl rfl rfl ?_
  refine q_goto rfl ?_
  refine q_iload_n rfl rfl rfl ?_
  refine q_bipush rfl rfl ?_
  refine q_icge rfl rfl (fun c90 => absurd c90 (by decide)) (fun c90 => ?_)
  refine q_iload_n rfl rfl rfl ?_
  refine q_ifeq rfl rfl (fun c91 => absurd c91 (by decide)) (fun c91 => ?_)
  refine q_aload_n rfl rfl rfl ?_
  refine q_getf rfl rfl (by decide) rfl rfl ?_
  refine q_iload_n rfl rfl rfl ?_
  refine q_iald rfl rfl (by decide) rfl (by decide) (q_tn (z := 0) rfl ?_)
  refine q_aload_n rfl rfl rfl ?_
  refine q_getf rfl rfl (by decide) rfl rfl ?_
  refine q_iload_n rfl rfl rfl ?_
  refine q_iald rfl rfl (by decide) (FW_54 S hW) (by decide) (q_tn (z := 0) rfl ?_)
  refine q_icne rfl rfl (fun c92 => ?_) (fun c92 => absurd (by decide) c92)
  refine q_iconst rfl rfl ?_
  refine q_goto rfl ?_
  refine q_ist1n rfl rfl rfl rfl ?_
  refine q_icc2 (z := 19) rfl rfl rfl rfl rfl ?_
  refine q_goto rfl ?_
  refine q_iload_n rfl rfl rfl ?_
  refine q_bipush rfl rfl ?_
  refine q_icge rfl rfl (fun c93 => absurd c93 (by decide)) (fun c93 => ?_)
  refine q_iload_n rfl rfl rfl ?_
  refine q_ifeq rfl rfl (fun c94 => absurd c94 (by decide)) (fun c94 => ?_)
  refine q_aload_n rfl rfl rfl ?_
  refine q_getf rfl rfl (by decide) rfl rfl ?_
  refine q_iload_n rfl rfl rfl ?_
  refine q_iald rfl rfl (by decide) rfl (by decide) (q_tn (z := 0) rfl ?_)
  refine q_aload_n rfl rfl rfl ?_
  refine q_getf rfl rfl (by decide) rfl rfl ?_
  refine q_iload_n rfl rfl rfl ?_
  refine q_iald rfl rfl (by decide) (FW_54 S hW) (by decide) (q_tn (z := 0) rfl ?_)
  refine q_icne rfl rfl (fun c95 => ?_) (fun c95 => absurd (by decide) c95)
  refine q_iconst rfl rfl ?_
  refine q_goto rfl ?_
  refine q_ist1n rfl rfl rfl rfl ?_
  refine q_icc2 (z := 20) rfl rfl rfl rfl rfl ?_
  refine q_goto rfl ?_
  refine q_iload_n rfl rfl rfl ?_
  refine q_bipush rfl rfl ?_
  refine q_icge rfl rfl (fun c96 => ?_) (fun c96 => absurd (by decide) c96)
  refine q_iload_n rfl rfl rfl ?_
  refine q_iret rfl rfl rfl ?_
  refine ⟨_, rfl, ?_⟩
  refine q_ifeq rfl rfl (fun c97 => absurd c97 (by decide)) (fun c97 => ?_)
  refine q_iconst rfl rfl ?_
  refine q_iret rfl rfl trivial ?_
  refine ⟨_, rfl, ?_⟩
  refine q_iret rfl rfl trivial ?_
  refine ⟨_, rfl, ?_⟩
  refine q_iceq rfl rfl (fun c98 => ?_) (fun c98 => absurd (by decide) c98)
  refine q_icc4 (z := 6) rfl rfl rfl rfl rfl ?_
  refine q_goto rfl ?_
  refine q_iload rfl rfl rfl ?_
  refine q_aload_nF rfl rfl rfl ?_
  refine q_alenX (x := 6) rfl rfl rfl ?_
  refine q_bipush rfl rfl ?_
  refine q_isub rfl rfl (q_tn (z := 0) rfl ?_)
  refine q_icgt rfl rfl (fun c99 => ?_) (fun c99 => absurd (by decide) c99)
  refine q_iconst rfl rfl ?_
  refine q_iret rfl rfl rfl ?_
  exact hK _ _
set_option maxHeartbeats 40000000 in
set_option maxRecDepth 20000 in
theorem t_op6 {S : Nat → pm_E} (hW : FW S) {x1 x2 x3 x4 x5 : Int32} (hx1 : xs 1 = x1) (hx2 : xs 2 = x2) (hx3 : xs 3 = x3) (hx4 : xs 4 = x4) (hx5 : xs 5 = x5) (hK : ∀ S n, K (some (.int 1)) S n) : PQ (j_SL 6) (j_SV xs) EX mm_L_law 382 [.float 5, .ref 0, .ref 46, .ref 81, .int 0, pm_un, pm_un, pm_un] [] S 82 82 190091 K := by
  refine q_aload_n rfl rfl rfl ?_
  refine q_aload_nF rfl rfl rfl ?_
  refine q_iload rfl rfl rfl ?_
  refine q_iconst rfl rfl ?_
  refine q_iadd rfl rfl (q_tn (z := 1) rfl ?_)
  refine q_ialdX (x := x1) rfl rfl rfl hx1 ?_
  refine q_nV1 rfl rfl (Or.inl rfl) rfl rfl rfl (by decide) (FW_0 S hW) ⟨rfl, rfl⟩ rfl ?_
  change PQ _ _ _ mm_X11_go 0 [.ref 0, .int x1] [] _ _ 0 0 _
  refine q_aload_n rfl rfl rfl ?_
  refine q_getf rfl rfl (by decide) (FW_0 S hW) rfl ?_
  refine q_iload_n rfl rfl rfl ?_
  refine q_nV1 rfl rfl (Or.inl rfl) rfl rfl rfl (by decide) (FW_1 S hW) ⟨rfl, rfl⟩ rfl ?_
  change PQ _ _ _ mm_X8_hasHand 0 [.ref 1, .int x1] [] _ _ 0 0 _
  refine q_iload_n rfl rfl rfl ?_
  refine q_iflt rfl rfl (fun c1 => ?_) (fun c1 => ?_)
  · refine q_iconst rfl rfl ?_
    refine q_iret rfl rfl rfl ?_
    refine ⟨_, rfl, ?_⟩
    refine q_ifne rfl rfl (fun c2 => ?_) (fun c2 => absurd (by decide) c2)
    refine q_iconst rfl rfl ?_
    refine q_iret rfl rfl trivial ?_
    refine ⟨_, rfl, ?_⟩
    refine q_aload_n rfl rfl rfl ?_
    refine q_aload_nF rfl rfl rfl ?_
    refine q_iload rfl rfl rfl ?_
    refine q_iconst rfl rfl ?_
    refine q_iadd rfl rfl (q_tn (z := 1) rfl ?_)
    refine q_ialdX (x := x1) rfl rfl rfl hx1 ?_
    refine q_nV1 rfl rfl (Or.inl rfl) rfl rfl rfl (by decide) (FW_46 S hW) ⟨rfl, rfl⟩ rfl ?_
    change PQ _ _ _ mm_X12_go 0 [.ref 46, .int x1, pm_un] [] _ _ 0 0 _
    refine q_aload_n rfl rfl rfl ?_
    refine q_iload_n rfl rfl rfl ?_
    refine q_nV1 rfl rfl (Or.inl rfl) rfl rfl rfl (by decide) (FW_46 S hW) ⟨rfl, rfl⟩ rfl ?_
    change PQ _ _ _ mm_X12_isHand 0 [.ref 46, .int x1] [] _ _ 0 0 _
    refine q_aload_n rfl rfl rfl ?_
    refine q_iload_n rfl rfl rfl ?_
    refine q_iconst rfl rfl ?_
    refine q_aload_n rfl rfl rfl ?_
    refine q_getf rfl rfl (by decide) (FW_46 S hW) rfl ?_
    refine q_iconst rfl rfl ?_
    refine q_isub rfl rfl (q_tn (z := 0) rfl ?_)
    refine q_nV3 rfl rfl (Or.inl rfl) rfl rfl rfl (by decide) (FW_46 S hW) ⟨rfl, rfl⟩ rfl ?_
    change PQ _ _ _ mm_X12_in 0 [.ref 46, .int x1, .int 0, .int 0] [] _ _ 0 0 _
    refine q_iload_n rfl rfl rfl ?_
    refine q_iload_n rfl rfl rfl ?_
    refine q_iclt rfl rfl (fun c3 => ?_) (fun c3 => absurd (i_lt_t (i_ltle c1 (B := (-1)) rfl) rfl) c3)
    refine q_iconst rfl rfl ?_
    refine q_iret rfl rfl rfl ?_
    refine ⟨_, rfl, ?_⟩
    refine q_iret rfl rfl rfl ?_
    refine ⟨_, rfl, ?_⟩
    refine q_ifne rfl rfl (fun c4 => ?_) (fun c4 => absurd (by decide) c4)
    refine q_iconst rfl rfl ?_
    refine q_iret rfl rfl trivial ?_
    refine ⟨_, rfl, ?_⟩
    refine q_iceq rfl rfl (fun c5 => ?_) (fun c5 => absurd (by decide) c5)
    refine q_icc4 (z := 6) rfl rfl rfl rfl rfl ?_
    refine q_goto rfl ?_
    refine q_iload rfl rfl rfl ?_
    refine q_aload_nF rfl rfl rfl ?_
    refine q_alenX (x := 6) rfl rfl rfl ?_
    refine q_bipush rfl rfl ?_
    refine q_isub rfl rfl (q_tn (z := 0) rfl ?_)
    refine q_icgt rfl rfl (fun c6 => ?_) (fun c6 => absurd (by decide) c6)
    refine q_iconst rfl rfl ?_
    refine q_iret rfl rfl rfl ?_
    exact hK _ _
  · refine q_iload_n rfl rfl rfl ?_
    refine q_aload_n rfl rfl rfl ?_
    refine q_getf rfl rfl (by decide) (FW_1 S hW) rfl ?_
    refine q_icge rfl rfl (fun c7 => ?_) (fun c7 => ?_)
    · refine q_iconst rfl rfl ?_
      refine q_iret rfl rfl rfl ?_
      refine ⟨_, rfl, ?_⟩
      refine q_ifne rfl rfl (fun c8 => ?_) (fun c8 => absurd (by decide) c8)
      refine q_iconst rfl rfl ?_
      refine q_iret rfl rfl trivial ?_
      refine ⟨_, rfl, ?_⟩
      refine q_aload_n rfl rfl rfl ?_
      refine q_aload_nF rfl rfl rfl ?_
      refine q_iload rfl rfl rfl ?_
      refine q_iconst rfl rfl ?_
      refine q_iadd rfl rfl (q_tn (z := 1) rfl ?_)
      refine q_ialdX (x := x1) rfl rfl rfl hx1 ?_
      refine q_nV1 rfl rfl (Or.inl rfl) rfl rfl rfl (by decide) (FW_46 S hW) ⟨rfl, rfl⟩ rfl ?_
      change PQ _ _ _ mm_X12_go 0 [.ref 46, .int x1, pm_un] [] _ _ 0 0 _
      refine q_aload_n rfl rfl rfl ?_
      refine q_iload_n rfl rfl rfl ?_
      refine q_nV1 rfl rfl (Or.inl rfl) rfl rfl rfl (by decide) (FW_46 S hW) ⟨rfl, rfl⟩ rfl ?_
      change PQ _ _ _ mm_X12_isHand 0 [.ref 46, .int x1] [] _ _ 0 0 _
      refine q_aload_n rfl rfl rfl ?_
      refine q_iload_n rfl rfl rfl ?_
      refine q_iconst rfl rfl ?_
      refine q_aload_n rfl rfl rfl ?_
      refine q_getf rfl rfl (by decide) (FW_46 S hW) rfl ?_
      refine q_iconst rfl rfl ?_
      refine q_isub rfl rfl (q_tn (z := 0) rfl ?_)
      refine q_nV3 rfl rfl (Or.inl rfl) rfl rfl rfl (by decide) (FW_46 S hW) ⟨rfl, rfl⟩ rfl ?_
      change PQ _ _ _ mm_X12_in 0 [.ref 46, .int x1, .int 0, .int 0] [] _ _ 0 0 _
      refine q_iload_n rfl rfl rfl ?_
      refine q_iload_n rfl rfl rfl ?_
      refine q_iclt rfl rfl (fun c9 => absurd c9 (i_lt_f c7 rfl)) (fun c9 => ?_)
      refine q_iload_n rfl rfl rfl ?_
      refine q_iload_n rfl rfl rfl ?_
      refine q_icgt rfl rfl (fun c10 => ?_) (fun c10 => absurd (i_gt_t c7 rfl) c10)
      refine q_iconst rfl rfl ?_
      refine q_iret rfl rfl rfl ?_
      refine ⟨_, rfl, ?_⟩
      refine q_iret rfl rfl rfl ?_
      refine ⟨_, rfl, ?_⟩
      refine q_ifne rfl rfl (fun c11 => ?_) (fun c11 => absurd (by decide) c11)
      refine q_iconst rfl rfl ?_
      refine q_iret rfl rfl trivial ?_
      refine ⟨_, rfl, ?_⟩
      refine q_iceq rfl rfl (fun c12 => ?_) (fun c12 => absurd (by decide) c12)
      refine q_icc4 (z := 6) rfl rfl rfl rfl rfl ?_
      refine q_goto rfl ?_
      refine q_iload rfl rfl rfl ?_
      refine q_aload_nF rfl rfl rfl ?_
      refine q_alenX (x := 6) rfl rfl rfl ?_
      refine q_bipush rfl rfl ?_
      refine q_isub rfl rfl (q_tn (z := 0) rfl ?_)
      refine q_icgt rfl rfl (fun c13 => ?_) (fun c13 => absurd (by decide) c13)
      refine q_iconst rfl rfl ?_
      refine q_iret rfl rfl rfl ?_
      exact hK _ _
    · have e13 : x1 = 0 := Int32.le_antisymm (i_ltle (i_nle c7) (B := 0) rfl) (i_nlt c1)
      subst e13
      refine q_iconst rfl rfl ?_
      refine q_goto rfl ?_
      refine q_iret rfl rfl rfl ?_
      refine ⟨_, rfl, ?_⟩
      refine q_ifne rfl rfl (fun c14 => absurd c14 (by decide)) (fun c14 => ?_)
      refine q_aload_n rfl rfl rfl ?_
      refine q_iload_n rfl rfl rfl ?_
      refine q_nV1 rfl rfl (Or.inl rfl) rfl rfl rfl (by decide) (FW_0 S hW) ⟨rfl, rfl⟩ rfl ?_
      change PQ _ _ _ mm_X11_runCanStep 0 [.ref 0, .int 0] [] _ _ 0 0 _
      refine q_aload_n rfl rfl rfl ?_
      refine q_getf rfl rfl (by decide) (FW_0 S hW) rfl ?_
      refine q_aload_n rfl rfl rfl ?_
      refine q_getf rfl rfl (by decide) (FW_0 S hW) rfl ?_
      refine q_nV1 rfl rfl (Or.inl rfl) rfl rfl rfl (by decide) (FW_7 S hW) ⟨rfl, rfl⟩ rfl ?_
      change PQ _ _ _ mm_X6_ableHands 0 [.ref 7, .long 0, pm_un, pm_un, pm_un, pm_un] [] _ _ 0 0 _
      refine q_aload_n rfl rfl rfl ?_
      refine q_lload_n rfl rfl rfl ?_
      refine q_nV1 rfl rfl (Or.inl rfl) rfl rfl rfl (by decide) (FW_7 S hW) ⟨rfl, rfl⟩ rfl ?_
      change PQ _ _ _ mm_X6_allMeet 0 [.ref 7, .long 0, pm_un, pm_un, pm_un] [] _ _ 0 0 _
      refine q_iconst rfl rfl ?_
      refine q_ist3n rfl rfl rfl rfl ?_
      refine q_iload_n rfl rfl rfl ?_
      refine q_aload_n rfl rfl rfl ?_
      refine q_getf rfl rfl (by decide) (FW_7 S hW) rfl ?_
      refine q_getf rfl rfl (by decide) (FW_1 S hW) rfl ?_
      refine q_icge rfl rfl (fun c15 => absurd c15 (by decide)) (fun c15 => ?_)
      refine q_aload_n rfl rfl rfl ?_
      refine q_getf rfl rfl (by decide) (FW_7 S hW) rfl ?_
      refine q_iload_n rfl rfl rfl ?_
      refine q_lload_n rfl rfl rfl ?_
      refine q_iload_n rfl rfl rfl ?_
      refine q_nS2 rfl rfl (Or.inl rfl) rfl rfl ⟨rfl, rfl⟩ rfl ?_
      change PQ _ _ _ mm_X0_position 0 [.long 0, pm_un, .int 0] [] _ _ 0 0 _
      refine q_lload_n rfl rfl rfl ?_
      refine q_bipush rfl rfl ?_
      refine q_iload_n rfl rfl rfl ?_
      refine q_imul rfl rfl (q_tn (z := 0) rfl ?_)
      refine q_lushr rfl rfl (q_tnl (z := 0) rfl ?_)
      refine q_l2i rfl rfl (q_tn (z := 0) rfl ?_)
      refine q_bipush rfl rfl ?_
      refine q_iand rfl rfl (q_tn (z := 0) rfl ?_)
      refine q_iret rfl rfl trivial ?_
      refine ⟨_, rfl, ?_⟩
      refine q_nV2 rfl rfl (Or.inl rfl) rfl rfl rfl (by decide) (FW_1 S hW) ⟨rfl, rfl⟩ rfl ?_
      change PQ _ _ _ mm_X8_cellOf 0 [.ref 1, .int 0, .int 0, pm_un] [] _ _ 0 0 _
      refine q_iload_n rfl rfl rfl ?_
      refine q_iflt rfl rfl (fun c16 => absurd c16 (by decide)) (fun c16 => ?_)
      refine q_iload_n rfl rfl rfl ?_
      refine q_aload_n rfl rfl rfl ?_
      refine q_getf rfl rfl (by decide) (FW_1 S hW) rfl ?_
      refine q_icge rfl rfl (fun c17 => absurd c17 (by decide)) (fun c17 => ?_)
      refine q_iload_n rfl rfl rfl ?_
      refine q_iflt rfl rfl (fun c18 => absurd c18 (by decide)) (fun c18 => ?_)
      refine q_iload_n rfl rfl rfl ?_
      refine q_aload_n rfl rfl rfl ?_
      refine q_getf rfl rfl (by decide) (FW_1 S hW) rfl ?_
      refine q_iload_n rfl rfl rfl ?_
      refine q_iald rfl rfl (by decide) (FW_3 S hW) (by decide) (q_tn (z := 0) rfl ?_)
      refine q_icge rfl rfl (fun c19 => ?_) (fun c19 => absurd (by decide) c19)
      refine q_iconst rfl rfl ?_
      refine q_ist3n rfl rfl rfl rfl ?_
      refine q_iload_n rfl rfl rfl ?_
      refine q_ifeq rfl rfl (fun c20 => ?_) (fun c20 => absurd (by decide) c20)
      refine q_iconst rfl rfl ?_
      refine q_iret rfl rfl trivial ?_
      refine ⟨_, rfl, ?_⟩
      refine q_ist4 rfl rfl rfl rfl ?_
      refine q_iload rfl rfl rfl ?_
      refine q_iflt rfl rfl (fun c21 => ?_) (fun c21 => absurd (by decide) c21)
      refine q_icc3 (z := 1) rfl rfl rfl rfl rfl ?_
      refine q_goto rfl ?_
      refine q_iload_n rfl rfl rfl ?_
      refine q_aload_n rfl rfl rfl ?_
      refine q_getf rfl rfl (by decide) (FW_7 S hW) rfl ?_
      refine q_getf rfl rfl (by decide) (FW_1 S hW) rfl ?_
      refine q_icge rfl rfl (fun c22 => ?_) (fun c22 => absurd (by decide) c22)
      refine q_iconst rfl rfl ?_
      refine q_iret rfl rfl rfl ?_
      refine ⟨_, rfl, ?_⟩
      refine q_ist3n rfl rfl rfl rfl ?_
      refine q_iconst rfl rfl ?_
      refine q_ist4 rfl rfl rfl rfl ?_
      refine q_iconst rfl rfl ?_
      refine q_ist5 rfl rfl rfl rfl ?_
      refine q_iload rfl rfl rfl ?_
      refine q_aload_n rfl rfl rfl ?_
      refine q_getf rfl rfl (by decide) (FW_7 S hW) rfl ?_
      refine q_getf rfl rfl (by decide) (FW_1 S hW) rfl ?_
      refine q_icge rfl rfl (fun c23 => absurd c23 (by decide)) (fun c23 => ?_)
      refine q_aload_n rfl rfl rfl ?_
      refine q_lload_n rfl rfl rfl ?_
      refine q_iload rfl rfl rfl ?_
      refine q_iload_n rfl rfl rfl ?_
      refine q_nV3 rfl rfl (Or.inl rfl) rfl rfl rfl (by decide) (FW_7 S hW) ⟨rfl, rfl⟩ rfl ?_
      change PQ _ _ _ mm_X6_isAble 0 [.ref 7, .long 0, pm_un, .int 0, .int 1, pm_un, pm_un, pm_un] [] _ _ 0 0 _
      refine q_aload_n rfl rfl rfl ?_
      refine q_getf rfl rfl (by decide) (FW_7 S hW) rfl ?_
      refine q_iload_n rfl rfl rfl ?_
      refine q_lload_n rfl rfl rfl ?_
      refine q_iload_n rfl rfl rfl ?_
      refine q_nS2 rfl rfl (Or.inl rfl) rfl rfl ⟨rfl, rfl⟩ rfl ?_
      change PQ _ _ _ mm_X0_position 0 [.long 0, pm_un, .int 0] [] _ _ 0 0 _
      refine q_lload_n rfl rfl rfl ?_
      refine q_bipush rfl rfl ?_
      refine q_iload_n rfl rfl rfl ?_
      refine q_imul rfl rfl (q_tn (z := 0) rfl ?_)
      refine q_lushr rfl rfl (q_tnl (z := 0) rfl ?_)
      refine q_l2i rfl rfl (q_tn (z := 0) rfl ?_)
      refine q_bipush rfl rfl ?_
      refine q_iand rfl rfl (q_tn (z := 0) rfl ?_)
      refine q_iret rfl rfl trivial ?_
      refine ⟨_, rfl, ?_⟩
      refine q_nV2 rfl rfl (Or.inl rfl) rfl rfl rfl (by decide) (FW_1 S hW) ⟨rfl, rfl⟩ rfl ?_
      change PQ _ _ _ mm_X8_cellOf 0 [.ref 1, .int 0, .int 0, pm_un] [] _ _ 0 0 _
      refine q_iload_n rfl rfl rfl ?_
      refine q_iflt rfl rfl (fun c24 => absurd c24 (by decide)) (fun c24 => ?_)
      refine q_iload_n rfl rfl rfl ?_
      refine q_aload_n rfl rfl rfl ?_
      refine q_getf rfl rfl (by decide) (FW_1 S hW) rfl ?_
      refine q_icge rfl rfl (fun c25 => absurd c25 (by decide)) (fun c25 => ?_)
      refine q_iload_n rfl rfl rfl ?_
      refine q_iflt rfl rfl (fun c26 => absurd c26 (by decide)) (fun c26 => ?_)
      refine q_iload_n rfl rfl rfl ?_
      refine q_aload_n rfl rfl rfl ?_
      refine q_getf rfl rfl (by decide) (FW_1 S hW) rfl ?_
      refine q_iload_n rfl rfl rfl ?_
      refine q_iald rfl rfl (by decide) (FW_3 S hW) (by decide) (q_tn (z := 0) rfl ?_)
      refine q_icge rfl rfl (fun c27 => ?_) (fun c27 => absurd (by decide) c27)
      refine q_iconst rfl rfl ?_
      refine q_ist3n rfl rfl rfl rfl ?_
      refine q_iload_n rfl rfl rfl ?_
      refine q_ifeq rfl rfl (fun c28 => ?_) (fun c28 => absurd (by decide) c28)
      refine q_iconst rfl rfl ?_
      refine q_iret rfl rfl trivial ?_
      refine ⟨_, rfl, ?_⟩
      refine q_ist5 rfl rfl rfl rfl ?_
      refine q_iload rfl rfl rfl ?_
      refine q_ifge rfl rfl (fun c29 => absurd c29 (by decide)) (fun c29 => ?_)
      refine q_iconst rfl rfl ?_
      refine q_iret rfl rfl rfl ?_
      refine ⟨_, rfl, ?_⟩
      refine q_ifeq rfl rfl (fun c30 => ?_) (fun c30 => absurd (by decide) c30)
      refine q_icc5 (z := 1) rfl rfl rfl rfl rfl ?_
      refine q_goto rfl ?_
      refine q_iload rfl rfl rfl ?_
      refine q_aload_n rfl rfl rfl ?_
      refine q_getf rfl rfl (by decide) (FW_7 S hW) rfl ?_
      refine q_getf rfl rfl (by decide) (FW_1 S hW) rfl ?_
      refine q_icge rfl rfl (fun c31 => ?_) (fun c31 => absurd (by decide) c31)
      refine q_iload rfl rfl rfl ?_
      refine q_iret rfl rfl trivial ?_
      refine ⟨_, rfl, ?_⟩
      refine q_iload_n rfl rfl rfl ?_
      refine q_iushr rfl rfl (q_tn (z := 0) rfl ?_)
      refine q_iconst rfl rfl ?_
      refine q_iand rfl rfl (q_tn (z := 0) rfl ?_)
      refine q_ifeq rfl rfl (fun c32 => ?_) (fun c32 => absurd (by decide) c32)
      refine q_iconst rfl rfl ?_
      refine q_iret rfl rfl rfl ?_
      refine ⟨_, rfl, ?_⟩
      refine q_ifne rfl rfl (fun c33 => ?_) (fun c33 => absurd (by decide) c33)
      refine q_iconst rfl rfl ?_
      refine q_iret rfl rfl trivial ?_
      refine ⟨_, rfl, ?_⟩
      refine q_aload_n rfl rfl rfl ?_
      refine q_aload_nF rfl rfl rfl ?_
      refine q_iload rfl rfl rfl ?_
      refine q_iconst rfl rfl ?_
      refine q_iadd rfl rfl (q_tn (z := 1) rfl ?_)
      refine q_ialdX (x := 0) rfl rfl rfl hx1 ?_
      refine q_nV1 rfl rfl (Or.inl rfl) rfl rfl rfl (by decide) (FW_46 S hW) ⟨rfl, rfl⟩ rfl ?_
      change PQ _ _ _ mm_X12_go 0 [.ref 46, .int 0, pm_un] [] _ _ 0 0 _
      refine q_aload_n rfl rfl rfl ?_
      refine q_iload_n rfl rfl rfl ?_
      refine q_nV1 rfl rfl (Or.inl rfl) rfl rfl rfl (by decide) (FW_46 S hW) ⟨rfl, rfl⟩ rfl ?_
      change PQ _ _ _ mm_X12_isHand 0 [.ref 46, .int 0] [] _ _ 0 0 _
      refine q_aload_n rfl rfl rfl ?_
      refine q_iload_n rfl rfl rfl ?_
      refine q_iconst rfl rfl ?_
      refine q_aload_n rfl rfl rfl ?_
      refine q_getf rfl rfl (by decide) (FW_46 S hW) rfl ?_
      refine q_iconst rfl rfl ?_
      refine q_isub rfl rfl (q_tn (z := 0) rfl ?_)
      refine q_nV3 rfl rfl (Or.inl rfl) rfl rfl rfl (by decide) (FW_46 S hW) ⟨rfl, rfl⟩ rfl ?_
      change PQ _ _ _ mm_X12_in 0 [.ref 46, .int 0, .int 0, .int 0] [] _ _ 0 0 _
      refine q_iload_n rfl rfl rfl ?_
      refine q_iload_n rfl rfl rfl ?_
      refine q_iclt rfl rfl (fun c34 => absurd c34 (by decide)) (fun c34 => ?_)
      refine q_iload_n rfl rfl rfl ?_
      refine q_iload_n rfl rfl rfl ?_
      refine q_icgt rfl rfl (fun c35 => absurd c35 (by decide)) (fun c35 => ?_)
      refine q_iconst rfl rfl ?_
      refine q_goto rfl ?_
      refine q_iret rfl rfl rfl ?_
      refine ⟨_, rfl, ?_⟩
      refine q_iret rfl rfl rfl ?_
      refine ⟨_, rfl, ?_⟩
      refine q_ifne rfl rfl (fun c36 => absurd c36 (by decide)) (fun c36 => ?_)
      refine q_aload_n rfl rfl rfl ?_
      refine q_nV0v rfl rfl (Or.inl rfl) rfl rfl rfl (by decide) (FW_46 S hW) ⟨rfl, rfl⟩ rfl ?_
      change PQ _ _ _ mm_X12_stand 0 [.ref 46, pm_un] [] _ _ 0 0 _
      refine q_aload_n rfl rfl rfl ?_
      refine q_iconst rfl rfl ?_
      refine q_putf rfl rfl (by decide) (FW_46 S hW) (by decide) rfl trivial ?_
      refine q_iconst rfl rfl ?_
      refine q_ist1n rfl rfl rfl rfl ?_
      refine q_iload_n rfl rfl rfl ?_
      refine q_bipush rfl rfl ?_
      refine q_icge rfl rfl (fun c37 => absurd c37 (by decide)) (fun c37 => ?_)
      refine q_aload_n rfl rfl rfl ?_
      refine q_getf rfl rfl (by decide) rfl rfl ?_
      refine q_iload_n rfl rfl rfl ?_
      refine q_aload_n rfl rfl rfl ?_
      refine q_getf rfl rfl (by decide) rfl rfl ?_
      refine q_iload_n rfl rfl rfl ?_
      refine q_iald rfl rfl (by decide) (FW_54 S hW) (by decide) (q_tn (z := 10) rfl ?_)
      refine q_iast rfl rfl (by decide) (FW_52 S hW) (by decide) ?_
      refine q_icc1 (z := 1) rfl rfl rfl rfl rfl ?_
      refine q_goto rfl ?_
      refine q_iload_n rfl rfl rfl ?_
      refine q_bipush rfl rfl ?_
      refine q_icge rfl rfl (fun c38 => absurd c38 (by decide)) (fun c38 => ?_)
      refine q_aload_n rfl rfl rfl ?_
      refine q_getf rfl rfl (by decide) rfl rfl ?_
      refine q_iload_n rfl rfl rfl ?_
      refine q_aload_n rfl rfl rfl ?_
      refine q_getf rfl rfl (by decide) rfl rfl ?_
      refine q_iload_n rfl rfl rfl ?_
      refine q_iald rfl rfl (by decide) (FW_54 S hW) (by decide) (q_tn (z := 0) rfl ?_)
      refine q_iast rfl rfl (by decide) rfl (by decide) ?_
      refine q_icc1 (z := 2) rfl rfl rfl rfl rfl ?_
      refine q_goto rfl ?_
      refine q_iload_n rfl rfl rfl ?_
      refine q_bipush rfl rfl ?_
      refine q_icge rfl rfl (fun c39 => absurd c39 (by decide)) (fun c39 => ?_)
      refine q_aload_n rfl rfl rfl ?_
      refine q_getf rfl rfl (by decide) rfl rfl ?_
      refine q_iload_n rfl rfl rfl ?_
      refine q_aload_n rfl rfl rfl ?_
      refine q_getf rfl rfl (by decide) rfl rfl ?_
      refine q_iload_n rfl rfl rfl ?_
      refine q_iald rfl rfl (by decide) (FW_54 S hW) (by decide) (q_tn (z := 0) rfl ?_)
      refine q_iast rfl rfl (by decide) rfl (by decide) ?_
      refine q_icc1 (z := 3) rfl rfl rfl rfl rfl ?_
      refine q_goto rfl ?_
      refine q_iload_n rfl rfl rfl ?_
      refine q_bipush rfl rfl ?_
      refine q_icge rfl rfl (fun c40 => absurd c40 (by decide)) (fun c40 => ?_)
      refine q_aload_n rfl rfl rfl ?_
      refine q_getf rfl rfl (by decide) rfl rfl ?_
      refine q_iload_n rfl rfl rfl ?_
      refine q_aload_n rfl rfl rfl ?_
      refine q_getf rfl rfl (by decide) rfl rfl ?_
      refine q_iload_n rfl rfl rfl ?_
      refine q_iald rfl rfl (by decide) (FW_54 S hW) (by decide) (q_tn (z := 0) rfl ?_)
      refine q_iast rfl rfl (by decide) rfl (by decide) ?_
      refine q_icc1 (z := 4) rfl rfl rfl rfl rfl ?_
      refine q_goto rfl ?_
      refine q_iload_n rfl rfl rfl ?_
      refine q_bipush rfl rfl ?_
      refine q_icge rfl rfl (fun c41 => absurd c41 (by decide)) (fun c41 => ?_)
      refine q_aload_n rfl rfl rfl ?_
      refine q_getf rfl rfl (by decide) rfl rfl ?_
      refine q_iload_n rfl rfl rfl ?_
      refine q_aload_n rfl rfl rfl ?_
      refine q_getf rfl rfl (by decide) rfl rfl ?_
      refine q_iload_n rfl rfl rfl ?_
      refine q_iald rfl rfl (by decide) (FW_54 S hW) (by decide) (q_tn (z := 0) rfl ?_)
      refine q_iast rfl rfl (by decide) rfl (by decide) ?_
      refine q_icc1 (z := 5) rfl rfl rfl rfl rfl ?_
      refine q_goto rfl ?_
      refine q_iload_n rfl rfl rfl ?_
      refine q_bipush rfl rfl ?_
      refine q_icge rfl rfl (fun c42 => absurd c42 (by decide)) (fun c42 => ?_)
      refine q_aload_n rfl rfl rfl ?_
      refine q_getf rfl rfl (by decide) rfl rfl ?_
      refine q_iload_n rfl rfl rfl ?_
      refine q_aload_n rfl rfl rfl ?_
      refine q_getf rfl rfl (by decide) rfl rfl ?_
      refine q_iload_n rfl rfl rfl ?_
      refine q_iald rfl rfl (by decide) (FW_54 S hW) (by decide) (q_tn (z := 0) rfl ?_)
      refine q_iast rfl rfl (by decide) rfl (by decide) ?_
      refine q_icc1 (z := 6) rfl rfl rfl rfl rfl ?_
      refine q_goto rfl ?_
      refine q_iload_n rfl rfl rfl ?_
      refine q_bipush rfl rfl ?_
      refine q_icge rfl rfl (fun c43 => absurd c43 (by decide)) (fun c43 => ?_)
      refine q_aload_n rfl rfl rfl ?_
      refine q_getf rfl rfl (by decide) rfl rfl ?_
      refine q_iload_n rfl rfl rfl ?_
      refine q_aload_n rfl rfl rfl ?_
      refine q_getf rfl rfl (by decide) rfl rfl ?_
      refine q_iload_n rfl rfl rfl ?_
      refine q_iald rfl rfl (by decide) (FW_54 S hW) (by decide) (q_tn (z := 0) rfl ?_)
      refine q_iast rfl rfl (by decide) rfl (by decide) ?_
      refine q_icc1 (z := 7) rfl rfl rfl rfl rfl ?_
      refine q_goto rfl ?_
      refine q_iload_n rfl rfl rfl ?_
      refine q_bipush rfl rfl ?_
      refine q_icge rfl rfl (fun c44 => absurd c44 (by decide)) (fun c44 => ?_)
      refine q_aload_n rfl rfl rfl ?_
      refine q_getf rfl rfl (by decide) rfl rfl ?_
      refine q_iload_n rfl rfl rfl ?_
      refine q_aload_n rfl rfl rfl ?_
      refine q_getf rfl rfl (by decide) rfl rfl ?_
      refine q_iload_n rfl rfl rfl ?_
      refine q_iald rfl rfl (by decide) (FW_54 S hW) (by decide) (q_tn (z := 0) rfl ?_)
      refine q_iast rfl rfl (by decide) rfl (by decide) ?_
      refine q_icc1 (z := 8) rfl rfl rfl rfl rfl ?_
      refine q_goto rfl ?_
      refine q_iload_n rfl rfl rfl ?_
      refine q_bipush rfl rfl ?_
      refine q_icge rfl rfl (fun c45 => absurd c45 (by decide)) (fun c45 => ?_)
      refine q_aload_n rfl rfl rfl ?_
      refine q_getf rfl rfl (by decide) rfl rfl ?_
      refine q_iload_n rfl rfl rfl ?_
      refine q_aload_n rfl rfl rfl ?_
      refine q_getf rfl rfl (by decide) rfl rfl ?_
      refine q_iload_n rfl rfl rfl ?_
      refine q_iald rfl rfl (by decide) (FW_54 S hW) (by decide) (q_tn (z := 0) rfl ?_)
      refine q_iast rfl rfl (by decide) rfl (by decide) ?_
      refine q_icc1 (z := 9) rfl rfl rfl rfl rfl ?_
      refine q_goto rfl ?_
      refine q_iload_n rfl rfl rfl ?_
      refine q_bipush rfl rfl ?_
      refine q_icge rfl rfl (fun c46 => absurd c46 (by decide)) (fun c46 => ?_)
      refine q_aload_n rfl rfl rfl ?_
      refine q_getf rfl rfl (by decide) rfl rfl ?_
      refine q_iload_n rfl rfl rfl ?_
      refine q_aload_n rfl rfl rfl ?_
      refine q_getf rfl rfl (by decide) rfl rfl ?_
      refine q_iload_n rfl rfl rfl ?_
      refine q_iald rfl rfl (by decide) (FW_54 S hW) (by decide) (q_tn (z := 0) rfl ?_)
      refine q_iast rfl rfl (by decide) rfl (by decide) ?_
      refine q_icc1 (z := 10) rfl rfl rfl rfl rfl ?_
      refine q_goto rfl ?_
      refine q_iload_n rfl rfl rfl ?_
      refine q_bipush rfl rfl ?_
      refine q_icge rfl rfl (fun c47 => absurd c47 (by decide)) (fun c47 => ?_)
      refine q_aload_n rfl rfl rfl ?_
      refine q_getf rfl rfl (by decide) rfl rfl ?_
      refine q_iload_n rfl rfl rfl ?_
      refine q_aload_n rfl rfl rfl ?_
      refine q_getf rfl rfl (by decide) rfl rfl ?_
      refine q_iload_n rfl rfl rfl ?_
      refine q_iald rfl rfl (by decide) (FW_54 S hW) (by decide) (q_tn (z := 0) rfl ?_)
      refine q_iast rfl rfl (by decide) rfl (by decide) ?_
      refine q_icc1 (z := 11) rfl rfl rfl rfl rfl ?_
      refine q_goto rfl ?_
      refine q_iload_n rfl rfl rfl ?_
      refine q_bipush rfl rfl ?_
      refine q_icge rfl rfl (fun c48 => absurd c48 (by decide)) (fun c48 => ?_)
      refine q_aload_n rfl rfl rfl ?_
      refine q_getf rfl rfl (by decide) rfl rfl ?_
      refine q_iload_n rfl rfl rfl ?_
      refine q_aload_n rfl rfl rfl ?_
      refine q_getf rfl rfl (by decide) rfl rfl ?_
      refine q_iload_n rfl rfl rfl ?_
      refine q_iald rfl rfl (by decide) (FW_54 S hW) (by decide) (q_tn (z := 0) rfl ?_)
      refine q_iast rfl rfl (by decide) rfl (by decide) ?_
      refine q_icc1 (z := 12) rfl rfl rfl rfl rfl ?_
      refine q_goto rfl ?_
      refine q_iload_n rfl rfl rfl ?_
      refine q_bipush rfl rfl ?_
      refine q_icge rfl rfl (fun c49 => absurd c49 (by decide)) (fun c49 => ?_)
      refine q_aload_n rfl rfl rfl ?_
      refine q_getf rfl rfl (by decide) rfl rfl ?_
      refine q_iload_n rfl rfl rfl ?_
      refine q_aload_n rfl rfl rfl ?_
      refine q_getf rfl rfl (by decide) rfl rfl ?_
      refine q_iload_n rfl rfl rfl ?_
      refine q_iald rfl rfl (by decide) (FW_54 S hW) (by decide) (q_tn (z := 0) rfl ?_)
      refine q_iast rfl rfl (by decide) rfl (by decide) ?_
      refine q_icc1 (z := 13) rfl rfl rfl rfl rfl ?_
      refine q_goto rfl ?_
      refine q_iload_n rfl rfl rfl ?_
      refine q_bipush rfl rfl ?_
      refine q_icge rfl rfl (fun c50 => absurd c50 (by decide)) (fun c50 => ?_)
      refine q_aload_n rfl rfl rfl ?_
      refine q_getf rfl rfl (by decide) rfl rfl ?_
      refine q_iload_n rfl rfl rfl ?_
      refine q_aload_n rfl rfl rfl ?_
      refine q_getf rfl rfl (by decide) rfl rfl ?_
      refine q_iload_n rfl rfl rfl ?_
      refine q_iald rfl rfl (by decide) (FW_54 S hW) (by decide) (q_tn (z := 0) rfl ?_)
      refine q_iast rfl rfl (by decide) rfl (by decide) ?_
      refine q_icc1 (z := 14) rfl rfl rfl rfl rfl ?_
      refine q_goto rfl ?_
      refine q_iload_n rfl rfl rfl ?_
      refine q_bipush rfl rfl ?_
      refine q_icge rfl rfl (fun c51 => absurd c51 (by decide)) (fun c51 => ?_)
      refine q_aload_n rfl rfl rfl ?_
      refine q_getf rfl rfl (by decide) rfl rfl ?_
      refine q_iload_n rfl rfl rfl ?_
      refine q_aload_n rfl rfl rfl ?_
      refine q_getf rfl rfl (by decide) rfl rfl ?_
      refine q_iload_n rfl rfl rfl ?_
      refine q_iald rfl rfl (by decide) (FW_54 S hW) (by decide) (q_tn (z := 0) rfl ?_)
      refine q_iast rfl rfl (by decide) rfl (by decide) ?_
      refine q_icc1 (z := 15) rfl rfl rfl rfl rfl ?_
      refine q_goto rfl ?_
      refine q_iload_n rfl rfl rfl ?_
      refine q_bipush rfl rfl ?_
      refine q_icge rfl rfl (fun c52 => absurd c52 (by decide)) (fun c52 => ?_)
      refine q_aload_n rfl rfl rfl ?_
      refine q_getf rfl rfl (by decide) rfl rfl ?_
      refine q_iload_n rfl rfl rfl ?_
      refine q_aload_n rfl rfl rfl ?_
      refine q_getf rfl rfl (by decide) rfl rfl ?_
      refine q_iload_n rfl rfl rfl ?_
      refine q_iald rfl rfl (by decide) (FW_54 S hW) (by decide) (q_tn (z := 0) rfl ?_)
      refine q_iast rfl rfl (by decide) rfl (by decide) ?_
      refine q_icc1 (z := 16) rfl rfl rfl rfl rfl ?_
      refine q_goto rfl ?_
      refine q_iload_n rfl rfl rfl ?_
      refine q_bipush rfl rfl ?_
      refine q_icge rfl rfl (fun c53 => absurd c53 (by decide)) (fun c53 => ?_)
      refine q_aload_n rfl rfl rfl ?_
      refine q_getf rfl rfl (by decide) rfl rfl ?_
      refine q_iload_n rfl rfl rfl ?_
      refine q_aload_n rfl rfl rfl ?_
      refine q_getf rfl rfl (by decide) rfl rfl ?_
      refine q_iload_n rfl rfl rfl ?_
      refine q_iald rfl rfl (by decide) (FW_54 S hW) (by decide) (q_tn (z := 0) rfl ?_)
      refine q_iast rfl rfl (by decide) rfl (by decide) ?_
      refine q_icc1 (z := 17) rfl rfl rfl rfl rfl ?_
      refine q_goto rfl ?_
      refine q_iload_n rfl rfl rfl ?_
      refine q_bipush rfl rfl ?_
      refine q_icge rfl rfl (fun c54 => absurd c54 (by decide)) (fun c54 => ?_)
      refine q_aload_n rfl rfl rfl ?_
      refine q_getf rfl rfl (by decide) rfl rfl ?_
      refine q_iload_n rfl rfl rfl ?_
      refine q_aload_n rfl rfl rfl ?_
      refine q_getf rfl rfl (by decide) rfl rfl ?_
      refine q_iload_n rfl rfl rfl ?_
      refine q_iald rfl rfl (by decide) (FW_54 S hW) (by decide) (q_tn (z := 0) rfl ?_)
      refine q_iast rfl rfl (by decide) rfl (by decide) ?_
      refine q_icc1 (z := 18) rfl rfl rfl rfl rfl ?_
      refine q_goto rfl ?_
      refine q_iload_n rfl rfl rfl ?_
      refine q_bipush rfl rfl ?_
      refine q_icge rfl rfl (fun c55 => absurd c55 (by decide)) (fun c55 => ?_)
      refine q_aload_n rfl rfl rfl ?_
      refine q_getf rfl rfl (by decide) rfl rfl ?_
      refine q_iload_n rfl rfl rfl ?_
      refine q_aload_n rfl rfl rfl ?_
      refine q_getf rfl rfl (by decide) rfl rfl ?_
      refine q_iload_n rfl rfl rfl ?_
      refine q_iald rfl rfl (by decide) (FW_54 S hW) (by decide) (q_tn (z := 0) rfl ?_)
      refine q_iast rfl rfl (by decide) rfl (by decide) ?_
      refine q_icc1 (z := 19) rfl rfl rfl rfl rfl ?_
      refine q_goto rfl ?_
      refine q_iload_n rfl rfl rfl ?_
      refine q_bipush rfl rfl ?_
      refine q_icge rfl rfl (fun c56 => absurd c56 (by decide)) (fun c56 => ?_)
      refine q_aload_n rfl rfl rfl ?_
      refine q_getf rfl rfl (by decide) rfl rfl ?_
      refine q_iload_n rfl rfl rfl ?_
      refine q_aload_n rfl rfl rfl ?_
      refine q_getf rfl rfl (by decide) rfl rfl ?_
      refine q_iload_n rfl rfl rfl ?_
      refine q_iald rfl rfl (by decide) (FW_54 S hW) (by decide) (q_tn (z := 0) rfl ?_)
      refine q_iast rfl rfl (by decide) rfl (by decide) ?_
      refine q_icc1 (z := 20) rfl rfl rfl rfl rfl ?_
      refine q_goto rfl ?_
      refine q_iload_n rfl rfl rfl ?_
      refine q_bipush rfl rfl ?_
      refine q_icge rfl rfl (fun c57 => ?_) (fun c57 => absurd (by decide) c57)
      refine q_ret rfl rfl ?_
      refine ⟨rfl, ?_⟩
      refine q_aload_n rfl rfl rfl ?_
      refine q_iload_n rfl rfl rfl ?_
      refine q_iconst rfl rfl ?_
      refine q_nV2 rfl rfl (Or.inl rfl) rfl rfl rfl (by decide) rfl ⟨rfl, rfl⟩ rfl ?_
      change PQ _ _ _ mm_X12_canStep 0 [.ref 46, .int 0, .int 0, pm_un] [] _ _ 0 0 _
      refine q_aload_n rfl rfl rfl ?_
      refine q_iload_n rfl rfl rfl ?_
      refine q_nV1 rfl rfl (Or.inl rfl) rfl rfl rfl (by decide) rfl ⟨rfl, rfl⟩ rfl ?_
      change PQ _ _ _ mm_X12_isOver 0 [.ref 46, .int 0] [] _ _ 0 0 _
      refine q_aload_n rfl rfl rfl ?_
      refine q_getf rfl rfl (by decide) rfl rfl ?_
      refine q_iconst rfl rfl ?_
      refine q_iload_n rfl rfl rfl ?_
      refine q_imul rfl rfl (q_tn (z := 0) rfl ?_)
      refine q_iald rfl rfl (by decide) rfl (by decide) (q_tn (z := 10) rfl ?_)
      refine q_bipush rfl rfl ?_
      refine q_iclt rfl rfl (fun c58 => absurd c58 (by decide)) (fun c58 => ?_)
      refine q_iconst rfl rfl ?_
      refine q_goto rfl ?_
      refine q_iret rfl rfl rfl ?_
      refine ⟨_, rfl, ?_⟩
      refine q_ifeq rfl rfl (fun c59 => absurd c59 (by decide)) (fun c59 => ?_)
      refine q_iconst rfl rfl ?_
      refine q_iret rfl rfl rfl ?_
      refine ⟨_, rfl, ?_⟩
      refine q_ifne rfl rfl (fun c60 => ?_) (fun c60 => absurd (by decide) c60)
      refine q_iconst rfl rfl ?_
      refine q_iret rfl rfl trivial ?_
      refine ⟨_, rfl, ?_⟩
      refine q_iceq rfl rfl (fun c61 => ?_) (fun c61 => absurd (by decide) c61)
      refine q_icc4 (z := 6) rfl rfl rfl rfl rfl ?_
      refine q_goto rfl ?_
      refine q_iload rfl rfl rfl ?_
      refine q_aload_nF rfl rfl rfl ?_
      refine q_alenX (x := 6) rfl rfl rfl ?_
      refine q_bipush rfl rfl ?_
      refine q_isub rfl rfl (q_tn (z := 0) rfl ?_)
      refine q_icgt rfl rfl (fun c62 => ?_) (fun c62 => absurd (by decide) c62)
      refine q_iconst rfl rfl ?_
      refine q_iret rfl rfl rfl ?_
      exact hK _ _
set_option maxHeartbeats 40000000 in
set_option maxRecDepth 20000 in
theorem t_op14 {S : Nat → pm_E} (hW : FW S) {x1 x2 x3 x4 x5 : Int32} (hx1 : xs 1 = x1) (hx2 : xs 2 = x2) (hx3 : xs 3 = x3) (hx4 : xs 4 = x4) (hx5 : xs 5 = x5) (hK : ∀ S n, K (some (.int 1)) S n) : PQ (j_SL 6) (j_SV xs) EX mm_L_law 618 [.float 5, .ref 0, .ref 46, .ref 81, .int 0, pm_un, pm_un, pm_un] [] S 82 82 190091 K := by
  refine q_aload_n rfl rfl rfl ?_
  refine q_aload_nF rfl rfl rfl ?_
  refine q_iload rfl rfl rfl ?_
  refine q_iconst rfl rfl ?_
  refine q_iadd rfl rfl (q_tn (z := 1) rfl ?_)
  refine q_ialdX (x := x1) rfl rfl rfl hx1 ?_
  refine q_aload_nF rfl rfl rfl ?_
  refine q_iload rfl rfl rfl ?_
  refine q_iconst rfl rfl ?_
  refine q_iadd rfl rfl (q_tn (z := 2) rfl ?_)
  refine q_ialdX (x := x2) rfl rfl rfl hx2 ?_
  refine q_nV2 rfl rfl (Or.inl rfl) rfl rfl rfl (by decide) (FW_0 S hW) ⟨rfl, rfl⟩ rfl ?_
  change PQ _ _ _ mm_X11_race 0 [.ref 0, .int x1, .int x2, pm_un] [] _ _ 0 0 _
  refine q_aload_n rfl rfl rfl ?_
  refine q_getf rfl rfl (by decide) (FW_0 S hW) rfl ?_
  refine q_iload_n rfl rfl rfl ?_
  refine q_nV1 rfl rfl (Or.inl rfl) rfl rfl rfl (by decide) (FW_1 S hW) ⟨rfl, rfl⟩ rfl ?_
  change PQ _ _ _ mm_X8_hasHand 0 [.ref 1, .int x1] [] _ _ 0 0 _
  refine q_iload_n rfl rfl rfl ?_
  refine q_iflt rfl rfl (fun c1 => ?_) (fun c1 => ?_)
  · refine q_iconst rfl rfl ?_
    refine q_iret rfl rfl rfl ?_
    refine ⟨_, rfl, ?_⟩
    refine q_ifeq rfl rfl (fun c2 => ?_) (fun c2 => absurd (by decide) c2)
    refine q_iconst rfl rfl ?_
    refine q_iret rfl rfl trivial ?_
    refine ⟨_, rfl, ?_⟩
    refine q_aload_n rfl rfl rfl ?_
    refine q_aload_nF rfl rfl rfl ?_
    refine q_iload rfl rfl rfl ?_
    refine q_iconst rfl rfl ?_
    refine q_iadd rfl rfl (q_tn (z := 1) rfl ?_)
    refine q_ialdX (x := x1) rfl rfl rfl hx1 ?_
    refine q_aload_nF rfl rfl rfl ?_
    refine q_iload rfl rfl rfl ?_
    refine q_iconst rfl rfl ?_
    refine q_iadd rfl rfl (q_tn (z := 2) rfl ?_)
    refine q_ialdX (x := x2) rfl rfl rfl hx2 ?_
    refine q_nV2 rfl rfl (Or.inl rfl) rfl rfl rfl (by decide) (FW_46 S hW) ⟨rfl, rfl⟩ rfl ?_
    change PQ _ _ _ mm_X12_race 0 [.ref 46, .int x1, .int x2, pm_un, pm_un, pm_un, pm_un] [] _ _ 0 0 _
    refine q_aload_n rfl rfl rfl ?_
    refine q_iload_n rfl rfl rfl ?_
    refine q_nV1 rfl rfl (Or.inl rfl) rfl rfl rfl (by decide) (FW_46 S hW) ⟨rfl, rfl⟩ rfl ?_
    change PQ _ _ _ mm_X12_isHand 0 [.ref 46, .int x1] [] _ _ 0 0 _
    refine q_aload_n rfl rfl rfl ?_
    refine q_iload_n rfl rfl rfl ?_
    refine q_iconst rfl rfl ?_
    refine q_aload_n rfl rfl rfl ?_
    refine q_getf rfl rfl (by decide) (FW_46 S hW) rfl ?_
    refine q_iconst rfl rfl ?_
    refine q_isub rfl rfl (q_tn (z := 0) rfl ?_)
    refine q_nV3 rfl rfl (Or.inl rfl) rfl rfl rfl (by decide) (FW_46 S hW) ⟨rfl, rfl⟩ rfl ?_
    change PQ _ _ _ mm_X12_in 0 [.ref 46, .int x1, .int 0, .int 0] [] _ _ 0 0 _
    refine q_iload_n rfl rfl rfl ?_
    refine q_iload_n rfl rfl rfl ?_
    refine q_iclt rfl rfl (fun c3 => ?_) (fun c3 => absurd (i_lt_t (i_ltle c1 (B := (-1)) rfl) rfl) c3)
    refine q_iconst rfl rfl ?_
    refine q_iret rfl rfl rfl ?_
    refine ⟨_, rfl, ?_⟩
    refine q_iret rfl rfl rfl ?_
    refine ⟨_, rfl, ?_⟩
    refine q_ifeq rfl rfl (fun c4 => ?_) (fun c4 => absurd (by decide) c4)
    refine q_iconst rfl rfl ?_
    refine q_iret rfl rfl trivial ?_
    refine ⟨_, rfl, ?_⟩
    refine q_iceq rfl rfl (fun c5 => ?_) (fun c5 => absurd (by decide) c5)
    refine q_icc4 (z := 6) rfl rfl rfl rfl rfl ?_
    refine q_goto rfl ?_
    refine q_iload rfl rfl rfl ?_
    refine q_aload_nF rfl rfl rfl ?_
    refine q_alenX (x := 6) rfl rfl rfl ?_
    refine q_bipush rfl rfl ?_
    refine q_isub rfl rfl (q_tn (z := 0) rfl ?_)
    refine q_icgt rfl rfl (fun c6 => ?_) (fun c6 => absurd (by decide) c6)
    refine q_iconst rfl rfl ?_
    refine q_iret rfl rfl rfl ?_
    exact hK _ _
  · refine q_iload_n rfl rfl rfl ?_
    refine q_aload_n rfl rfl rfl ?_
    refine q_getf rfl rfl (by decide) (FW_1 S hW) rfl ?_
    refine q_icge rfl rfl (fun c7 => ?_) (fun c7 => ?_)
    · refine q_iconst rfl rfl ?_
      refine q_iret rfl rfl rfl ?_
      refine ⟨_, rfl, ?_⟩
      refine q_ifeq rfl rfl (fun c8 => ?_) (fun c8 => absurd (by decide) c8)
      refine q_iconst rfl rfl ?_
      refine q_iret rfl rfl trivial ?_
      refine ⟨_, rfl, ?_⟩
      refine q_aload_n rfl rfl rfl ?_
      refine q_aload_nF rfl rfl rfl ?_
      refine q_iload rfl rfl rfl ?_
      refine q_iconst rfl rfl ?_
      refine q_iadd rfl rfl (q_tn (z := 1) rfl ?_)
      refine q_ialdX (x := x1) rfl rfl rfl hx1 ?_
      refine q_aload_nF rfl rfl rfl ?_
      refine q_iload rfl rfl rfl ?_
      refine q_iconst rfl rfl ?_
      refine q_iadd rfl rfl (q_tn (z := 2) rfl ?_)
      refine q_ialdX (x := x2) rfl rfl rfl hx2 ?_
      refine q_nV2 rfl rfl (Or.inl rfl) rfl rfl rfl (by decide) (FW_46 S hW) ⟨rfl, rfl⟩ rfl ?_
      change PQ _ _ _ mm_X12_race 0 [.ref 46, .int x1, .int x2, pm_un, pm_un, pm_un, pm_un] [] _ _ 0 0 _
      refine q_aload_n rfl rfl rfl ?_
      refine q_iload_n rfl rfl rfl ?_
      refine q_nV1 rfl rfl (Or.inl rfl) rfl rfl rfl (by decide) (FW_46 S hW) ⟨rfl, rfl⟩ rfl ?_
      change PQ _ _ _ mm_X12_isHand 0 [.ref 46, .int x1] [] _ _ 0 0 _
      refine q_aload_n rfl rfl rfl ?_
      refine q_iload_n rfl rfl rfl ?_
      refine q_iconst rfl rfl ?_
      refine q_aload_n rfl rfl rfl ?_
      refine q_getf rfl rfl (by decide) (FW_46 S hW) rfl ?_
      refine q_iconst rfl rfl ?_
      refine q_isub rfl rfl (q_tn (z := 0) rfl ?_)
      refine q_nV3 rfl rfl (Or.inl rfl) rfl rfl rfl (by decide) (FW_46 S hW) ⟨rfl, rfl⟩ rfl ?_
      change PQ _ _ _ mm_X12_in 0 [.ref 46, .int x1, .int 0, .int 0] [] _ _ 0 0 _
      refine q_iload_n rfl rfl rfl ?_
      refine q_iload_n rfl rfl rfl ?_
      refine q_iclt rfl rfl (fun c9 => absurd c9 (i_lt_f c7 rfl)) (fun c9 => ?_)
      refine q_iload_n rfl rfl rfl ?_
      refine q_iload_n rfl rfl rfl ?_
      refine q_icgt rfl rfl (fun c10 => ?_) (fun c10 => absurd (i_gt_t c7 rfl) c10)
      refine q_iconst rfl rfl ?_
      refine q_iret rfl rfl rfl ?_
      refine ⟨_, rfl, ?_⟩
      refine q_iret rfl rfl rfl ?_
      refine ⟨_, rfl, ?_⟩
      refine q_ifeq rfl rfl (fun c11 => ?_) (fun c11 => absurd (by decide) c11)
      refine q_iconst rfl rfl ?_
      refine q_iret rfl rfl trivial ?_
      refine ⟨_, rfl, ?_⟩
      refine q_iceq rfl rfl (fun c12 => ?_) (fun c12 => absurd (by decide) c12)
      refine q_icc4 (z := 6) rfl rfl rfl rfl rfl ?_
      refine q_goto rfl ?_
      refine q_iload rfl rfl rfl ?_
      refine q_aload_nF rfl rfl rfl ?_
      refine q_alenX (x := 6) rfl rfl rfl ?_
      refine q_bipush rfl rfl ?_
      refine q_isub rfl rfl (q_tn (z := 0) rfl ?_)
      refine q_icgt rfl rfl (fun c13 => ?_) (fun c13 => absurd (by decide) c13)
      refine q_iconst rfl rfl ?_
      refine q_iret rfl rfl rfl ?_
      exact hK _ _
    · have e13 : x1 = 0 := Int32.le_antisymm (i_ltle (i_nle c7) (B := 0) rfl) (i_nlt c1)
      subst e13
      refine q_iconst rfl rfl ?_
      refine q_goto rfl ?_
      refine q_iret rfl rfl rfl ?_
      refine ⟨_, rfl, ?_⟩
      refine q_ifeq rfl rfl (fun c14 => absurd c14 (by decide)) (fun c14 => ?_)
      refine q_aload_n rfl rfl rfl ?_
      refine q_getf rfl rfl (by decide) (FW_0 S hW) rfl ?_
      refine q_iload_n rfl rfl rfl ?_
      refine q_nV1 rfl rfl (Or.inl rfl) rfl rfl rfl (by decide) (FW_1 S hW) ⟨rfl, rfl⟩ rfl ?_
      change PQ _ _ _ mm_X8_hasHand 0 [.ref 1, .int x2] [] _ _ 0 0 _
      refine q_iload_n rfl rfl rfl ?_
      refine q_iflt rfl rfl (fun c15 => ?_) (fun c15 => ?_)
      · refine q_iconst rfl rfl ?_
        refine q_iret rfl rfl rfl ?_
        refine ⟨_, rfl, ?_⟩
        refine q_ifeq rfl rfl (fun c16 => ?_) (fun c16 => absurd (by decide) c16)
        refine q_iconst rfl rfl ?_
        refine q_iret rfl rfl trivial ?_
        refine ⟨_, rfl, ?_⟩
        refine q_aload_n rfl rfl rfl ?_
        refine q_aload_nF rfl rfl rfl ?_
        refine q_iload rfl rfl rfl ?_
        refine q_iconst rfl rfl ?_
        refine q_iadd rfl rfl (q_tn (z := 1) rfl ?_)
        refine q_ialdX (x := 0) rfl rfl rfl hx1 ?_
        refine q_aload_nF rfl rfl rfl ?_
        refine q_iload rfl rfl rfl ?_
        refine q_iconst rfl rfl ?_
        refine q_iadd rfl rfl (q_tn (z := 2) rfl ?_)
        refine q_ialdX (x := x2) rfl rfl rfl hx2 ?_
        refine q_nV2 rfl rfl (Or.inl rfl) rfl rfl rfl (by decide) (FW_46 S hW) ⟨rfl, rfl⟩ rfl ?_
        change PQ _ _ _ mm_X12_race 0 [.ref 46, .int 0, .int x2, pm_un, pm_un, pm_un, pm_un] [] _ _ 0 0 _
        refine q_aload_n rfl rfl rfl ?_
        refine q_iload_n rfl rfl rfl ?_
        refine q_nV1 rfl rfl (Or.inl rfl) rfl rfl rfl (by decide) (FW_46 S hW) ⟨rfl, rfl⟩ rfl ?_
        change PQ _ _ _ mm_X12_isHand 0 [.ref 46, .int 0] [] _ _ 0 0 _
        refine q_aload_n rfl rfl rfl ?_
        refine q_iload_n rfl rfl rfl ?_
        refine q_iconst rfl rfl ?_
        refine q_aload_n rfl rfl rfl ?_
        refine q_getf rfl rfl (by decide) (FW_46 S hW) rfl ?_
        refine q_iconst rfl rfl ?_
        refine q_isub rfl rfl (q_tn (z := 0) rfl ?_)
        refine q_nV3 rfl rfl (Or.inl rfl) rfl rfl rfl (by decide) (FW_46 S hW) ⟨rfl, rfl⟩ rfl ?_
        change PQ _ _ _ mm_X12_in 0 [.ref 46, .int 0, .int 0, .int 0] [] _ _ 0 0 _
        refine q_iload_n rfl rfl rfl ?_
        refine q_iload_n rfl rfl rfl ?_
        refine q_iclt rfl rfl (fun c17 => absurd c17 (by decide)) (fun c17 => ?_)
        refine q_iload_n rfl rfl rfl ?_
        refine q_iload_n rfl rfl rfl ?_
        refine q_icgt rfl rfl (fun c18 => absurd c18 (by decide)) (fun c18 => ?_)
        refine q_iconst rfl rfl ?_
        refine q_goto rfl ?_
        refine q_iret rfl rfl rfl ?_
        refine ⟨_, rfl, ?_⟩
        refine q_iret rfl rfl rfl ?_
        refine ⟨_, rfl, ?_⟩
        refine q_ifeq rfl rfl (fun c19 => absurd c19 (by decide)) (fun c19 => ?_)
        refine q_aload_n rfl rfl rfl ?_
        refine q_iload_n rfl rfl rfl ?_
        refine q_nV1 rfl rfl (Or.inl rfl) rfl rfl rfl (by decide) (FW_46 S hW) ⟨rfl, rfl⟩ rfl ?_
        change PQ _ _ _ mm_X12_isHand 0 [.ref 46, .int x2] [] _ _ 0 0 _
        refine q_aload_n rfl rfl rfl ?_
        refine q_iload_n rfl rfl rfl ?_
        refine q_iconst rfl rfl ?_
        refine q_aload_n rfl rfl rfl ?_
        refine q_getf rfl rfl (by decide) (FW_46 S hW) rfl ?_
        refine q_iconst rfl rfl ?_
        refine q_isub rfl rfl (q_tn (z := 0) rfl ?_)
        refine q_nV3 rfl rfl (Or.inl rfl) rfl rfl rfl (by decide) (FW_46 S hW) ⟨rfl, rfl⟩ rfl ?_
        change PQ _ _ _ mm_X12_in 0 [.ref 46, .int x2, .int 0, .int 0] [] _ _ 0 0 _
        refine q_iload_n rfl rfl rfl ?_
        refine q_iload_n rfl rfl rfl ?_
        refine q_iclt rfl rfl (fun c20 => ?_) (fun c20 => absurd (i_lt_t (i_ltle c15 (B := (-1)) rfl) rfl) c20)
        refine q_iconst rfl rfl ?_
        refine q_iret rfl rfl rfl ?_
        refine ⟨_, rfl, ?_⟩
        refine q_iret rfl rfl rfl ?_
        refine ⟨_, rfl, ?_⟩
        refine q_ifeq rfl rfl (fun c21 => ?_) (fun c21 => absurd (by decide) c21)
        refine q_iconst rfl rfl ?_
        refine q_iret rfl rfl trivial ?_
        refine ⟨_, rfl, ?_⟩
        refine q_iceq rfl rfl (fun c22 => ?_) (fun c22 => absurd (by decide) c22)
        refine q_icc4 (z := 6) rfl rfl rfl rfl rfl ?_
        refine q_goto rfl ?_
        refine q_iload rfl rfl rfl ?_
        refine q_aload_nF rfl rfl rfl ?_
        refine q_alenX (x := 6) rfl rfl rfl ?_
        refine q_bipush rfl rfl ?_
        refine q_isub rfl rfl (q_tn (z := 0) rfl ?_)
        refine q_icgt rfl rfl (fun c23 => ?_) (fun c23 => absurd (by decide) c23)
        refine q_iconst rfl rfl ?_
        refine q_iret rfl rfl rfl ?_
        exact hK _ _
      · refine q_iload_n rfl rfl rfl ?_
        refine q_aload_n rfl rfl rfl ?_
        refine q_getf rfl rfl (by decide) (FW_1 S hW) rfl ?_
        refine q_icge rfl rfl (fun c24 => ?_) (fun c24 => ?_)
        · refine q_iconst rfl rfl ?_
          refine q_iret rfl rfl rfl ?_
          refine ⟨_, rfl, ?_⟩
          refine q_ifeq rfl rfl (fun c25 => ?_) (fun c25 => absurd (by decide) c25)
          refine q_iconst rfl rfl ?_
          refine q_iret rfl rfl trivial ?_
          refine ⟨_, rfl, ?_⟩
          refine q_aload_n rfl rfl rfl ?_
          refine q_aload_nF rfl rfl rfl ?_
          refine q_iload rfl rfl rfl ?_
          refine q_iconst rfl rfl ?_
          refine q_iadd rfl rfl (q_tn (z := 1) rfl ?_)
          refine q_ialdX (x := 0) rfl rfl rfl hx1 ?_
          refine q_aload_nF rfl rfl rfl ?_
          refine q_iload rfl rfl rfl ?_
          refine q_iconst rfl rfl ?_
          refine q_iadd rfl rfl (q_tn (z := 2) rfl ?_)
          refine q_ialdX (x := x2) rfl rfl rfl hx2 ?_
          refine q_nV2 rfl rfl (Or.inl rfl) rfl rfl rfl (by decide) (FW_46 S hW) ⟨rfl, rfl⟩ rfl ?_
          change PQ _ _ _ mm_X12_race 0 [.ref 46, .int 0, .int x2, pm_un, pm_un, pm_un, pm_un] [] _ _ 0 0 _
          refine q_aload_n rfl rfl rfl ?_
          refine q_iload_n rfl rfl rfl ?_
          refine q_nV1 rfl rfl (Or.inl rfl) rfl rfl rfl (by decide) (FW_46 S hW) ⟨rfl, rfl⟩ rfl ?_
          change PQ _ _ _ mm_X12_isHand 0 [.ref 46, .int 0] [] _ _ 0 0 _
          refine q_aload_n rfl rfl rfl ?_
          refine q_iload_n rfl rfl rfl ?_
          refine q_iconst rfl rfl ?_
          refine q_aload_n rfl rfl rfl ?_
          refine q_getf rfl rfl (by decide) (FW_46 S hW) rfl ?_
          refine q_iconst rfl rfl ?_
          refine q_isub rfl rfl (q_tn (z := 0) rfl ?_)
          refine q_nV3 rfl rfl (Or.inl rfl) rfl rfl rfl (by decide) (FW_46 S hW) ⟨rfl, rfl⟩ rfl ?_
          change PQ _ _ _ mm_X12_in 0 [.ref 46, .int 0, .int 0, .int 0] [] _ _ 0 0 _
          refine q_iload_n rfl rfl rfl ?_
          refine q_iload_n rfl rfl rfl ?_
          refine q_iclt rfl rfl (fun c26 => absurd c26 (by decide)) (fun c26 => ?_)
          refine q_iload_n rfl rfl rfl ?_
          refine q_iload_n rfl rfl rfl ?_
          refine q_icgt rfl rfl (fun c27 => absurd c27 (by decide)) (fun c27 => ?_)
          refine q_iconst rfl rfl ?_
          refine q_goto rfl ?_
          refine q_iret rfl rfl rfl ?_
          refine ⟨_, rfl, ?_⟩
          refine q_iret rfl rfl rfl ?_
          refine ⟨_, rfl, ?_⟩
          refine q_ifeq rfl rfl (fun c28 => absurd c28 (by decide)) (fun c28 => ?_)
          refine q_aload_n rfl rfl rfl ?_
          refine q_iload_n rfl rfl rfl ?_
          refine q_nV1 rfl rfl (Or.inl rfl) rfl rfl rfl (by decide) (FW_46 S hW) ⟨rfl, rfl⟩ rfl ?_
          change PQ _ _ _ mm_X12_isHand 0 [.ref 46, .int x2] [] _ _ 0 0 _
          refine q_aload_n rfl rfl rfl ?_
          refine q_iload_n rfl rfl rfl ?_
          refine q_iconst rfl rfl ?_
          refine q_aload_n rfl rfl rfl ?_
          refine q_getf rfl rfl (by decide) (FW_46 S hW) rfl ?_
          refine q_iconst rfl rfl ?_
          refine q_isub rfl rfl (q_tn (z := 0) rfl ?_)
          refine q_nV3 rfl rfl (Or.inl rfl) rfl rfl rfl (by decide) (FW_46 S hW) ⟨rfl, rfl⟩ rfl ?_
          change PQ _ _ _ mm_X12_in 0 [.ref 46, .int x2, .int 0, .int 0] [] _ _ 0 0 _
          refine q_iload_n rfl rfl rfl ?_
          refine q_iload_n rfl rfl rfl ?_
          refine q_iclt rfl rfl (fun c29 => absurd c29 (i_lt_f c24 rfl)) (fun c29 => ?_)
          refine q_iload_n rfl rfl rfl ?_
          refine q_iload_n rfl rfl rfl ?_
          refine q_icgt rfl rfl (fun c30 => ?_) (fun c30 => absurd (i_gt_t c24 rfl) c30)
          refine q_iconst rfl rfl ?_
          refine q_iret rfl rfl rfl ?_
          refine ⟨_, rfl, ?_⟩
          refine q_iret rfl rfl rfl ?_
          refine ⟨_, rfl, ?_⟩
          refine q_ifeq rfl rfl (fun c31 => ?_) (fun c31 => absurd (by decide) c31)
          refine q_iconst rfl rfl ?_
          refine q_iret rfl rfl trivial ?_
          refine ⟨_, rfl, ?_⟩
          refine q_iceq rfl rfl (fun c32 => ?_) (fun c32 => absurd (by decide) c32)
          refine q_icc4 (z := 6) rfl rfl rfl rfl rfl ?_
          refine q_goto rfl ?_
          refine q_iload rfl rfl rfl ?_
          refine q_aload_nF rfl rfl rfl ?_
          refine q_alenX (x := 6) rfl rfl rfl ?_
          refine q_bipush rfl rfl ?_
          refine q_isub rfl rfl (q_tn (z := 0) rfl ?_)
          refine q_icgt rfl rfl (fun c33 => ?_) (fun c33 => absurd (by decide) c33)
          refine q_iconst rfl rfl ?_
          refine q_iret rfl rfl rfl ?_
          exact hK _ _
        · have e33 : x2 = 0 := Int32.le_antisymm (i_ltle (i_nle c24) (B := 0) rfl) (i_nlt c15)
          subst e33
          refine q_iconst rfl rfl ?_
          refine q_goto rfl ?_
          refine q_iret rfl rfl rfl ?_
          refine ⟨_, rfl, ?_⟩
          refine q_ifeq rfl rfl (fun c34 => absurd c34 (by decide)) (fun c34 => ?_)
          refine q_iload_n rfl rfl rfl ?_
          refine q_iload_n rfl rfl rfl ?_
          refine q_icne rfl rfl (fun c35 => ?_) (fun c35 => absurd (by decide) c35)
          refine q_iconst rfl rfl ?_
          refine q_iret rfl rfl trivial ?_
          refine ⟨_, rfl, ?_⟩
          refine q_aload_n rfl rfl rfl ?_
          refine q_aload_nF rfl rfl rfl ?_
          refine q_iload rfl rfl rfl ?_
          refine q_iconst rfl rfl ?_
          refine q_iadd rfl rfl (q_tn (z := 1) rfl ?_)
          refine q_ialdX (x := 0) rfl rfl rfl hx1 ?_
          refine q_aload_nF rfl rfl rfl ?_
          refine q_iload rfl rfl rfl ?_
          refine q_iconst rfl rfl ?_
          refine q_iadd rfl rfl (q_tn (z := 2) rfl ?_)
          refine q_ialdX (x := 0) rfl rfl rfl hx2 ?_
          refine q_nV2 rfl rfl (Or.inl rfl) rfl rfl rfl (by decide) (FW_46 S hW) ⟨rfl, rfl⟩ rfl ?_
          change PQ _ _ _ mm_X12_race 0 [.ref 46, .int 0, .int 0, pm_un, pm_un, pm_un, pm_un] [] _ _ 0 0 _
          refine q_aload_n rfl rfl rfl ?_
          refine q_iload_n rfl rfl rfl ?_
          refine q_nV1 rfl rfl (Or.inl rfl) rfl rfl rfl (by decide) (FW_46 S hW) ⟨rfl, rfl⟩ rfl ?_
          change PQ _ _ _ mm_X12_isHand 0 [.ref 46, .int 0] [] _ _ 0 0 _
          refine q_aload_n rfl rfl rfl ?_
          refine q_iload_n rfl rfl rfl ?_
          refine q_iconst rfl rfl ?_
          refine q_aload_n rfl rfl rfl ?_
          refine q_getf rfl rfl (by decide) (FW_46 S hW) rfl ?_
          refine q_iconst rfl rfl ?_
          refine q_isub rfl rfl (q_tn (z := 0) rfl ?_)
          refine q_nV3 rfl rfl (Or.inl rfl) rfl rfl rfl (by decide) (FW_46 S hW) ⟨rfl, rfl⟩ rfl ?_
          change PQ _ _ _ mm_X12_in 0 [.ref 46, .int 0, .int 0, .int 0] [] _ _ 0 0 _
          refine q_iload_n rfl rfl rfl ?_
          refine q_iload_n rfl rfl rfl ?_
          refine q_iclt rfl rfl (fun c36 => absurd c36 (by decide)) (fun c36 => ?_)
          refine q_iload_n rfl rfl rfl ?_
          refine q_iload_n rfl rfl rfl ?_
          refine q_icgt rfl rfl (fun c37 => absurd c37 (by decide)) (fun c37 => ?_)
          refine q_iconst rfl rfl ?_
          refine q_goto rfl ?_
          refine q_iret rfl rfl rfl ?_
          refine ⟨_, rfl, ?_⟩
          refine q_iret rfl rfl rfl ?_
          refine ⟨_, rfl, ?_⟩
          refine q_ifeq rfl rfl (fun c38 => absurd c38 (by decide)) (fun c38 => ?_)
          refine q_aload_n rfl rfl rfl ?_
          refine q_iload_n rfl rfl rfl ?_
          refine q_nV1 rfl rfl (Or.inl rfl) rfl rfl rfl (by decide) (FW_46 S hW) ⟨rfl, rfl⟩ rfl ?_
          change PQ _ _ _ mm_X12_isHand 0 [.ref 46, .int 0] [] _ _ 0 0 _
          refine q_aload_n rfl rfl rfl ?_
          refine q_iload_n rfl rfl rfl ?_
          refine q_iconst rfl rfl ?_
          refine q_aload_n rfl rfl rfl ?_
          refine q_getf rfl rfl (by decide) (FW_46 S hW) rfl ?_
          refine q_iconst rfl rfl ?_
          refine q_isub rfl rfl (q_tn (z := 0) rfl ?_)
          refine q_nV3 rfl rfl (Or.inl rfl) rfl rfl rfl (by decide) (FW_46 S hW) ⟨rfl, rfl⟩ rfl ?_
          change PQ _ _ _ mm_X12_in 0 [.ref 46, .int 0, .int 0, .int 0] [] _ _ 0 0 _
          refine q_iload_n rfl rfl rfl ?_
          refine q_iload_n rfl rfl rfl ?_
          refine q_iclt rfl rfl (fun c39 => absurd c39 (by decide)) (fun c39 => ?_)
          refine q_iload_n rfl rfl rfl ?_
          refine q_iload_n rfl rfl rfl ?_
          refine q_icgt rfl rfl (fun c40 => absurd c40 (by decide)) (fun c40 => ?_)
          refine q_iconst rfl rfl ?_
          refine q_goto rfl ?_
          refine q_iret rfl rfl rfl ?_
          refine ⟨_, rfl, ?_⟩
          refine q_iret rfl rfl rfl ?_
          refine ⟨_, rfl, ?_⟩
          refine q_ifeq rfl rfl (fun c41 => absurd c41 (by decide)) (fun c41 => ?_)
          refine q_iload_n rfl rfl rfl ?_
          refine q_iload_n rfl rfl rfl ?_
          refine q_icne rfl rfl (fun c42 => ?_) (fun c42 => absurd (by decide) c42)
          refine q_iconst rfl rfl ?_
          refine q_iret rfl rfl trivial ?_
          refine ⟨_, rfl, ?_⟩
          refine q_iceq rfl rfl (fun c43 => ?_) (fun c43 => absurd (by decide) c43)
          refine q_icc4 (z := 6) rfl rfl rfl rfl rfl ?_
          refine q_goto rfl ?_
          refine q_iload rfl rfl rfl ?_
          refine q_aload_nF rfl rfl rfl ?_
          refine q_alenX (x := 6) rfl rfl rfl ?_
          refine q_bipush rfl rfl ?_
          refine q_isub rfl rfl (q_tn (z := 0) rfl ?_)
          refine q_icgt rfl rfl (fun c44 => ?_) (fun c44 => absurd (by decide) c44)
          refine q_iconst rfl rfl ?_
          refine q_iret rfl rfl rfl ?_
          exact hK _ _
set_option maxHeartbeats 40000000 in
set_option maxRecDepth 20000 in
theorem t_op15 {S : Nat → pm_E} (hW : FW S) {x1 x2 x3 x4 x5 : Int32} (hx1 : xs 1 = x1) (hx2 : xs 2 = x2) (hx3 : xs 3 = x3) (hx4 : xs 4 = x4) (hx5 : xs 5 = x5) (hK : ∀ S n, K (some (.int 1)) S n) : PQ (j_SL 6) (j_SV xs) EX mm_L_law 655 [.float 5, .ref 0, .ref 46, .ref 81, .int 0, pm_un, pm_un, pm_un] [] S 82 82 190091 K := by
  refine q_aload_n rfl rfl rfl ?_
  refine q_aload_nF rfl rfl rfl ?_
  refine q_iload rfl rfl rfl ?_
  refine q_iconst rfl rfl ?_
  refine q_iadd rfl rfl (q_tn (z := 1) rfl ?_)
  refine q_ialdX (x := x1) rfl rfl rfl hx1 ?_
  refine q_aload_nF rfl rfl rfl ?_
  refine q_iload rfl rfl rfl ?_
  refine q_iconst rfl rfl ?_
  refine q_iadd rfl rfl (q_tn (z := 2) rfl ?_)
  refine q_ialdX (x := x2) rfl rfl rfl hx2 ?_
  refine q_aload_nF rfl rfl rfl ?_
  refine q_iload rfl rfl rfl ?_
  refine q_iconst rfl rfl ?_
  refine q_iadd rfl rfl (q_tn (z := 3) rfl ?_)
  refine q_ialdX (x := x3) rfl rfl rfl hx3 ?_
  refine q_aload_nF rfl rfl rfl ?_
  refine q_iload rfl rfl rfl ?_
  refine q_iconst rfl rfl ?_
  refine q_iadd rfl rfl (q_tn (z := 4) rfl ?_)
  refine q_ialdX (x := x4) rfl rfl rfl hx4 ?_
  refine q_nV4 rfl rfl (Or.inl rfl) rfl rfl rfl (by decide) (FW_0 S hW) ⟨rfl, rfl⟩ rfl ?_
  change PQ _ _ _ mm_X11_always 0 [.ref 0, .int x1, .int x2, .int x3, .int x4, pm_un, pm_un, pm_un, pm_un] [] _ _ 0 0 _
  refine q_aload_n rfl rfl rfl ?_
  refine q_getf rfl rfl (by decide) (FW_0 S hW) rfl ?_
  refine q_iload_n rfl rfl rfl ?_
  refine q_iload_n rfl rfl rfl ?_
  refine q_nV2 rfl rfl (Or.inl rfl) rfl rfl rfl (by decide) (FW_1 S hW) ⟨rfl, rfl⟩ rfl ?_
  change PQ _ _ _ mm_X8_hasStatement 0 [.ref 1, .int x1, .int x2] [] _ _ 0 0 _
  refine q_iload_n rfl rfl rfl ?_
  refine q_iflt rfl rfl (fun c1 => ?_) (fun c1 => ?_)
  · refine q_iconst rfl rfl ?_
    refine q_iret rfl rfl rfl ?_
    refine ⟨_, rfl, ?_⟩
    refine q_ifeq rfl rfl (fun c2 => ?_) (fun c2 => absurd (by decide) c2)
    refine q_iconst rfl rfl ?_
    refine q_iret rfl rfl trivial ?_
    refine ⟨_, rfl, ?_⟩
    refine q_aload_n rfl rfl rfl ?_
    refine q_aload_nF rfl rfl rfl ?_
    refine q_iload rfl rfl rfl ?_
    refine q_iconst rfl rfl ?_
    refine q_iadd rfl rfl (q_tn (z := 1) rfl ?_)
    refine q_ialdX (x := x1) rfl rfl rfl hx1 ?_
    refine q_aload_nF rfl rfl rfl ?_
    refine q_iload rfl rfl rfl ?_
    refine q_iconst rfl rfl ?_
    refine q_iadd rfl rfl (q_tn (z := 2) rfl ?_)
    refine q_ialdX (x := x2) rfl rfl rfl hx2 ?_
    refine q_aload_nF rfl rfl rfl ?_
    refine q_iload rfl rfl rfl ?_
    refine q_iconst rfl rfl ?_
    refine q_iadd rfl rfl (q_tn (z := 3) rfl ?_)
    refine q_ialdX (x := x3) rfl rfl rfl hx3 ?_
    refine q_aload_nF rfl rfl rfl ?_
    refine q_iload rfl rfl rfl ?_
    refine q_iconst rfl rfl ?_
    refine q_iadd rfl rfl (q_tn (z := 4) rfl ?_)
    refine q_ialdX (x := x4) rfl rfl rfl hx4 ?_
    refine q_nV4 rfl rfl (Or.inl rfl) rfl rfl rfl (by decide) (FW_46 S hW) ⟨rfl, rfl⟩ rfl ?_
    change PQ _ _ _ mm_X12_always 0 [.ref 46, .int x1, .int x2, .int x3, .int x4, pm_un] [] _ _ 0 0 _
    refine q_aload_n rfl rfl rfl ?_
    refine q_iload_n rfl rfl rfl ?_
    refine q_nV1 rfl rfl (Or.inl rfl) rfl rfl rfl (by decide) (FW_46 S hW) ⟨rfl, rfl⟩ rfl ?_
    change PQ _ _ _ mm_X12_isHand 0 [.ref 46, .int x1] [] _ _ 0 0 _
    refine q_aload_n rfl rfl rfl ?_
    refine q_iload_n rfl rfl rfl ?_
    refine q_iconst rfl rfl ?_
    refine q_aload_n rfl rfl rfl ?_
    refine q_getf rfl rfl (by decide) (FW_46 S hW) rfl ?_
    refine q_iconst rfl rfl ?_
    refine q_isub rfl rfl (q_tn (z := 0) rfl ?_)
    refine q_nV3 rfl rfl (Or.inl rfl) rfl rfl rfl (by decide) (FW_46 S hW) ⟨rfl, rfl⟩ rfl ?_
    change PQ _ _ _ mm_X12_in 0 [.ref 46, .int x1, .int 0, .int 0] [] _ _ 0 0 _
    refine q_iload_n rfl rfl rfl ?_
    refine q_iload_n rfl rfl rfl ?_
    refine q_iclt rfl rfl (fun c3 => ?_) (fun c3 => absurd (i_lt_t (i_ltle c1 (B := (-1)) rfl) rfl) c3)
    refine q_iconst rfl rfl ?_
    refine q_iret rfl rfl rfl ?_
    refine ⟨_, rfl, ?_⟩
    refine q_iret rfl rfl rfl ?_
    refine ⟨_, rfl, ?_⟩
    refine q_ifeq rfl rfl (fun c4 => ?_) (fun c4 => absurd (by decide) c4)
    refine q_iconst rfl rfl ?_
    refine q_iret rfl rfl trivial ?_
    refine ⟨_, rfl, ?_⟩
    refine q_iceq rfl rfl (fun c5 => ?_) (fun c5 => absurd (by decide) c5)
    refine q_icc4 (z := 6) rfl rfl rfl rfl rfl ?_
    refine q_goto rfl ?_
    refine q_iload rfl rfl rfl ?_
    refine q_aload_nF rfl rfl rfl ?_
    refine q_alenX (x := 6) rfl rfl rfl ?_
    refine q_bipush rfl rfl ?_
    refine q_isub rfl rfl (q_tn (z := 0) rfl ?_)
    refine q_icgt rfl rfl (fun c6 => ?_) (fun c6 => absurd (by decide) c6)
    refine q_iconst rfl rfl ?_
    refine q_iret rfl rfl rfl ?_
    exact hK _ _
  · refine q_iload_n rfl rfl rfl ?_
    refine q_aload_n rfl rfl rfl ?_
    refine q_getf rfl rfl (by decide) (FW_1 S hW) rfl ?_
    refine q_icge rfl rfl (fun c7 => ?_) (fun c7 => ?_)
    · refine q_iconst rfl rfl ?_
      refine q_iret rfl rfl rfl ?_
      refine ⟨_, rfl, ?_⟩
      refine q_ifeq rfl rfl (fun c8 => ?_) (fun c8 => absurd (by decide) c8)
      refine q_iconst rfl rfl ?_
      refine q_iret rfl rfl trivial ?_
      refine ⟨_, rfl, ?_⟩
      refine q_aload_n rfl rfl rfl ?_
      refine q_aload_nF rfl rfl rfl ?_
      refine q_iload rfl rfl rfl ?_
      refine q_iconst rfl rfl ?_
      refine q_iadd rfl rfl (q_tn (z := 1) rfl ?_)
      refine q_ialdX (x := x1) rfl rfl rfl hx1 ?_
      refine q_aload_nF rfl rfl rfl ?_
      refine q_iload rfl rfl rfl ?_
      refine q_iconst rfl rfl ?_
      refine q_iadd rfl rfl (q_tn (z := 2) rfl ?_)
      refine q_ialdX (x := x2) rfl rfl rfl hx2 ?_
      refine q_aload_nF rfl rfl rfl ?_
      refine q_iload rfl rfl rfl ?_
      refine q_iconst rfl rfl ?_
      refine q_iadd rfl rfl (q_tn (z := 3) rfl ?_)
      refine q_ialdX (x := x3) rfl rfl rfl hx3 ?_
      refine q_aload_nF rfl rfl rfl ?_
      refine q_iload rfl rfl rfl ?_
      refine q_iconst rfl rfl ?_
      refine q_iadd rfl rfl (q_tn (z := 4) rfl ?_)
      refine q_ialdX (x := x4) rfl rfl rfl hx4 ?_
      refine q_nV4 rfl rfl (Or.inl rfl) rfl rfl rfl (by decide) (FW_46 S hW) ⟨rfl, rfl⟩ rfl ?_
      change PQ _ _ _ mm_X12_always 0 [.ref 46, .int x1, .int x2, .int x3, .int x4, pm_un] [] _ _ 0 0 _
      refine q_aload_n rfl rfl rfl ?_
      refine q_iload_n rfl rfl rfl ?_
      refine q_nV1 rfl rfl (Or.inl rfl) rfl rfl rfl (by decide) (FW_46 S hW) ⟨rfl, rfl⟩ rfl ?_
      change PQ _ _ _ mm_X12_isHand 0 [.ref 46, .int x1] [] _ _ 0 0 _
      refine q_aload_n rfl rfl rfl ?_
      refine q_iload_n rfl rfl rfl ?_
      refine q_iconst rfl rfl ?_
      refine q_aload_n rfl rfl rfl ?_
      refine q_getf rfl rfl (by decide) (FW_46 S hW) rfl ?_
      refine q_iconst rfl rfl ?_
      refine q_isub rfl rfl (q_tn (z := 0) rfl ?_)
      refine q_nV3 rfl rfl (Or.inl rfl) rfl rfl rfl (by decide) (FW_46 S hW) ⟨rfl, rfl⟩ rfl ?_
      change PQ _ _ _ mm_X12_in 0 [.ref 46, .int x1, .int 0, .int 0] [] _ _ 0 0 _
      refine q_iload_n rfl rfl rfl ?_
      refine q_iload_n rfl rfl rfl ?_
      refine q_iclt rfl rfl (fun c9 => absurd c9 (i_lt_f c7 rfl)) (fun c9 => ?_)
      refine q_iload_n rfl rfl rfl ?_
      refine q_iload_n rfl rfl rfl ?_
      refine q_icgt rfl rfl (fun c10 => ?_) (fun c10 => absurd (i_gt_t c7 rfl) c10)
      refine q_iconst rfl rfl ?_
      refine q_iret rfl rfl rfl ?_
      refine ⟨_, rfl, ?_⟩
      refine q_iret rfl rfl rfl ?_
      refine ⟨_, rfl, ?_⟩
      refine q_ifeq rfl rfl (fun c11 => ?_) (fun c11 => absurd (by decide) c11)
      refine q_iconst rfl rfl ?_
      refine q_iret rfl rfl trivial ?_
      refine ⟨_, rfl, ?_⟩
      refine q_iceq rfl rfl (fun c12 => ?_) (fun c12 => absurd (by decide) c12)
      refine q_icc4 (z := 6) rfl rfl rfl rfl rfl ?_
      refine q_goto rfl ?_
      refine q_iload rfl rfl rfl ?_
      refine q_aload_nF rfl rfl rfl ?_
      refine q_alenX (x := 6) rfl rfl rfl ?_
      refine q_bipush rfl rfl ?_
      refine q_isub rfl rfl (q_tn (z := 0) rfl ?_)
      refine q_icgt rfl rfl (fun c13 => ?_) (fun c13 => absurd (by decide) c13)
      refine q_iconst rfl rfl ?_
      refine q_iret rfl rfl rfl ?_
      exact hK _ _
    · have e13 : x1 = 0 := Int32.le_antisymm (i_ltle (i_nle c7) (B := 0) rfl) (i_nlt c1)
      subst e13
      refine q_iload_n rfl rfl rfl ?_
      refine q_iflt rfl rfl (fun c14 => ?_) (fun c14 => ?_)
      · refine q_iconst rfl rfl ?_
        refine q_iret rfl rfl rfl ?_
        refine ⟨_, rfl, ?_⟩
        refine q_ifeq rfl rfl (fun c15 => ?_) (fun c15 => absurd (by decide) c15)
        refine q_iconst rfl rfl ?_
        refine q_iret rfl rfl trivial ?_
        refine ⟨_, rfl, ?_⟩
        refine q_aload_n rfl rfl rfl ?_
        refine q_aload_nF rfl rfl rfl ?_
        refine q_iload rfl rfl rfl ?_
        refine q_iconst rfl rfl ?_
        refine q_iadd rfl rfl (q_tn (z := 1) rfl ?_)
        refine q_ialdX (x := 0) rfl rfl rfl hx1 ?_
        refine q_aload_nF rfl rfl rfl ?_
        refine q_iload rfl rfl rfl ?_
        refine q_iconst rfl rfl ?_
        refine q_iadd rfl rfl (q_tn (z := 2) rfl ?_)
        refine q_ialdX (x := x2) rfl rfl rfl hx2 ?_
        refine q_aload_nF rfl rfl rfl ?_
        refine q_iload rfl rfl rfl ?_
        refine q_iconst rfl rfl ?_
        refine q_iadd rfl rfl (q_tn (z := 3) rfl ?_)
        refine q_ialdX (x := x3) rfl rfl rfl hx3 ?_
        refine q_aload_nF rfl rfl rfl ?_
        refine q_iload rfl rfl rfl ?_
        refine q_iconst rfl rfl ?_
        refine q_iadd rfl rfl (q_tn (z := 4) rfl ?_)
        refine q_ialdX (x := x4) rfl rfl rfl hx4 ?_
        refine q_nV4 rfl rfl (Or.inl rfl) rfl rfl rfl (by decide) (FW_46 S hW) ⟨rfl, rfl⟩ rfl ?_
        change PQ _ _ _ mm_X12_always 0 [.ref 46, .int 0, .int x2, .int x3, .int x4, pm_un] [] _ _ 0 0 _
        refine q_aload_n rfl rfl rfl ?_
        refine q_iload_n rfl rfl rfl ?_
        refine q_nV1 rfl rfl (Or.inl rfl) rfl rfl rfl (by decide) (FW_46 S hW) ⟨rfl, rfl⟩ rfl ?_
        change PQ _ _ _ mm_X12_isHand 0 [.ref 46, .int 0] [] _ _ 0 0 _
        refine q_aload_n rfl rfl rfl ?_
        refine q_iload_n rfl rfl rfl ?_
        refine q_iconst rfl rfl ?_
        refine q_aload_n rfl rfl rfl ?_
        refine q_getf rfl rfl (by decide) (FW_46 S hW) rfl ?_
        refine q_iconst rfl rfl ?_
        refine q_isub rfl rfl (q_tn (z := 0) rfl ?_)
        refine q_nV3 rfl rfl (Or.inl rfl) rfl rfl rfl (by decide) (FW_46 S hW) ⟨rfl, rfl⟩ rfl ?_
        change PQ _ _ _ mm_X12_in 0 [.ref 46, .int 0, .int 0, .int 0] [] _ _ 0 0 _
        refine q_iload_n rfl rfl rfl ?_
        refine q_iload_n rfl rfl rfl ?_
        refine q_iclt rfl rfl (fun c16 => absurd c16 (by decide)) (fun c16 => ?_)
        refine q_iload_n rfl rfl rfl ?_
        refine q_iload_n rfl rfl rfl ?_
        refine q_icgt rfl rfl (fun c17 => absurd c17 (by decide)) (fun c17 => ?_)
        refine q_iconst rfl rfl ?_
        refine q_goto rfl ?_
        refine q_iret rfl rfl rfl ?_
        refine ⟨_, rfl, ?_⟩
        refine q_iret rfl rfl rfl ?_
        refine ⟨_, rfl, ?_⟩
        refine q_ifeq rfl rfl (fun c18 => absurd c18 (by decide)) (fun c18 => ?_)
        refine q_aload_n rfl rfl rfl ?_
        refine q_iload_n rfl rfl rfl ?_
        refine q_iconst rfl rfl ?_
        refine q_aload_n rfl rfl rfl ?_
        refine q_getf rfl rfl (by decide) (FW_46 S hW) rfl ?_
        refine q_iload_n rfl rfl rfl ?_
        refine q_iald rfl rfl (by decide) (FW_47 S hW) (by decide) (q_tn (z := 0) rfl ?_)
        refine q_iconst rfl rfl ?_
        refine q_isub rfl rfl (q_tn (z := (-1)) rfl ?_)
        refine q_nV3 rfl rfl (Or.inl rfl) rfl rfl rfl (by decide) (FW_46 S hW) ⟨rfl, rfl⟩ rfl ?_
        change PQ _ _ _ mm_X12_in 0 [.ref 46, .int x2, .int 0, .int (-1)] [] _ _ 0 0 _
        refine q_iload_n rfl rfl rfl ?_
        refine q_iload_n rfl rfl rfl ?_
        refine q_iclt rfl rfl (fun c19 => ?_) (fun c19 => absurd (i_lt_t (i_ltle c14 (B := (-1)) rfl) rfl) c19)
        refine q_iconst rfl rfl ?_
        refine q_iret rfl rfl rfl ?_
        refine ⟨_, rfl, ?_⟩
        refine q_ifeq rfl rfl (fun c20 => ?_) (fun c20 => absurd (by decide) c20)
        refine q_iconst rfl rfl ?_
        refine q_iret rfl rfl trivial ?_
        refine ⟨_, rfl, ?_⟩
        refine q_iceq rfl rfl (fun c21 => ?_) (fun c21 => absurd (by decide) c21)
        refine q_icc4 (z := 6) rfl rfl rfl rfl rfl ?_
        refine q_goto rfl ?_
        refine q_iload rfl rfl rfl ?_
        refine q_aload_nF rfl rfl rfl ?_
        refine q_alenX (x := 6) rfl rfl rfl ?_
        refine q_bipush rfl rfl ?_
        refine q_isub rfl rfl (q_tn (z := 0) rfl ?_)
        refine q_icgt rfl rfl (fun c22 => ?_) (fun c22 => absurd (by decide) c22)
        refine q_iconst rfl rfl ?_
        refine q_iret rfl rfl rfl ?_
        exact hK _ _
      · refine q_iload_n rfl rfl rfl ?_
        refine q_aload_n rfl rfl rfl ?_
        refine q_getf rfl rfl (by decide) (FW_1 S hW) rfl ?_
        refine q_iload_n rfl rfl rfl ?_
        refine q_iald rfl rfl (by decide) (FW_3 S hW) (by decide) (q_tn (z := 0) rfl ?_)
        refine q_icge rfl rfl (fun c23 => ?_) (fun c23 => absurd (i_ge_t (i_nlt c14) rfl) c23)
        refine q_iconst rfl rfl ?_
        refine q_iret rfl rfl rfl ?_
        refine ⟨_, rfl, ?_⟩
        refine q_ifeq rfl rfl (fun c24 => ?_) (fun c24 => absurd (by decide) c24)
        refine q_iconst rfl rfl ?_
        refine q_iret rfl rfl trivial ?_
        refine ⟨_, rfl, ?_⟩
        refine q_aload_n rfl rfl rfl ?_
        refine q_aload_nF rfl rfl rfl ?_
        refine q_iload rfl rfl rfl ?_
        refine q_iconst rfl rfl ?_
        refine q_iadd rfl rfl (q_tn (z := 1) rfl ?_)
        refine q_ialdX (x := 0) rfl rfl rfl hx1 ?_
        refine q_aload_nF rfl rfl rfl ?_
        refine q_iload rfl rfl rfl ?_
        refine q_iconst rfl rfl ?_
        refine q_iadd rfl rfl (q_tn (z := 2) rfl ?_)
        refine q_ialdX (x := x2) rfl rfl rfl hx2 ?_
        refine q_aload_nF rfl rfl rfl ?_
        refine q_iload rfl rfl rfl ?_
        refine q_iconst rfl rfl ?_
        refine q_iadd rfl rfl (q_tn (z := 3) rfl ?_)
        refine q_ialdX (x := x3) rfl rfl rfl hx3 ?_
        refine q_aload_nF rfl rfl rfl ?_
        refine q_iload rfl rfl rfl ?_
        refine q_iconst rfl rfl ?_
        refine q_iadd rfl rfl (q_tn (z := 4) rfl ?_)
        refine q_ialdX (x := x4) rfl rfl rfl hx4 ?_
        refine q_nV4 rfl rfl (Or.inl rfl) rfl rfl rfl (by decide) (FW_46 S hW) ⟨rfl, rfl⟩ rfl ?_
        change PQ _ _ _ mm_X12_always 0 [.ref 46, .int 0, .int x2, .int x3, .int x4, pm_un] [] _ _ 0 0 _
        refine q_aload_n rfl rfl rfl ?_
        refine q_iload_n rfl rfl rfl ?_
        refine q_nV1 rfl rfl (Or.inl rfl) rfl rfl rfl (by decide) (FW_46 S hW) ⟨rfl, rfl⟩ rfl ?_
        change PQ _ _ _ mm_X12_isHand 0 [.ref 46, .int 0] [] _ _ 0 0 _
        refine q_aload_n rfl rfl rfl ?_
        refine q_iload_n rfl rfl rfl ?_
        refine q_iconst rfl rfl ?_
        refine q_aload_n rfl rfl rfl ?_
        refine q_getf rfl rfl (by decide) (FW_46 S hW) rfl ?_
        refine q_iconst rfl rfl ?_
        refine q_isub rfl rfl (q_tn (z := 0) rfl ?_)
        refine q_nV3 rfl rfl (Or.inl rfl) rfl rfl rfl (by decide) (FW_46 S hW) ⟨rfl, rfl⟩ rfl ?_
        change PQ _ _ _ mm_X12_in 0 [.ref 46, .int 0, .int 0, .int 0] [] _ _ 0 0 _
        refine q_iload_n rfl rfl rfl ?_
        refine q_iload_n rfl rfl rfl ?_
        refine q_iclt rfl rfl (fun c25 => absurd c25 (by decide)) (fun c25 => ?_)
        refine q_iload_n rfl rfl rfl ?_
        refine q_iload_n rfl rfl rfl ?_
        refine q_icgt rfl rfl (fun c26 => absurd c26 (by decide)) (fun c26 => ?_)
        refine q_iconst rfl rfl ?_
        refine q_goto rfl ?_
        refine q_iret rfl rfl rfl ?_
        refine ⟨_, rfl, ?_⟩
        refine q_iret rfl rfl rfl ?_
        refine ⟨_, rfl, ?_⟩
        refine q_ifeq rfl rfl (fun c27 => absurd c27 (by decide)) (fun c27 => ?_)
        refine q_aload_n rfl rfl rfl ?_
        refine q_iload_n rfl rfl rfl ?_
        refine q_iconst rfl rfl ?_
        refine q_aload_n rfl rfl rfl ?_
        refine q_getf rfl rfl (by decide) (FW_46 S hW) rfl ?_
        refine q_iload_n rfl rfl rfl ?_
        refine q_iald rfl rfl (by decide) (FW_47 S hW) (by decide) (q_tn (z := 0) rfl ?_)
        refine q_iconst rfl rfl ?_
        refine q_isub rfl rfl (q_tn (z := (-1)) rfl ?_)
        refine q_nV3 rfl rfl (Or.inl rfl) rfl rfl rfl (by decide) (FW_46 S hW) ⟨rfl, rfl⟩ rfl ?_
        change PQ _ _ _ mm_X12_in 0 [.ref 46, .int x2, .int 0, .int (-1)] [] _ _ 0 0 _
        refine q_iload_n rfl rfl rfl ?_
        refine q_iload_n rfl rfl rfl ?_
        refine q_iclt rfl rfl (fun c28 => absurd c28 (i_lt_f (i_nlt c14) rfl)) (fun c28 => ?_)
        refine q_iload_n rfl rfl rfl ?_
        refine q_iload_n rfl rfl rfl ?_
        refine q_icgt rfl rfl (fun c29 => ?_) (fun c29 => absurd (i_gt_t (i_nlt c14) rfl) c29)
        refine q_iconst rfl rfl ?_
        refine q_iret rfl rfl rfl ?_
        refine ⟨_, rfl, ?_⟩
        refine q_ifeq rfl rfl (fun c30 => ?_) (fun c30 => absurd (by decide) c30)
        refine q_iconst rfl rfl ?_
        refine q_iret rfl rfl trivial ?_
        refine ⟨_, rfl, ?_⟩
        refine q_iceq rfl rfl (fun c31 => ?_) (fun c31 => absurd (by decide) c31)
        refine q_icc4 (z := 6) rfl rfl rfl rfl rfl ?_
        refine q_goto rfl ?_
        refine q_iload rfl rfl rfl ?_
        refine q_aload_nF rfl rfl rfl ?_
        refine q_alenX (x := 6) rfl rfl rfl ?_
        refine q_bipush rfl rfl ?_
        refine q_isub rfl rfl (q_tn (z := 0) rfl ?_)
        refine q_icgt rfl rfl (fun c32 => ?_) (fun c32 => absurd (by decide) c32)
        refine q_iconst rfl rfl ?_
        refine q_iret rfl rfl rfl ?_
        exact hK _ _
set_option maxHeartbeats 40000000 in
set_option maxRecDepth 20000 in
theorem t_op17 {S : Nat → pm_E} (hW : FW S) {x1 x2 x3 x4 x5 : Int32} (hx1 : xs 1 = x1) (hx2 : xs 2 = x2) (hx3 : xs 3 = x3) (hx4 : xs 4 = x4) (hx5 : xs 5 = x5) (hK : ∀ S n, K (some (.int 1)) S n) : PQ (j_SL 6) (j_SV xs) EX mm_L_law 765 [.float 5, .ref 0, .ref 46, .ref 81, .int 0, pm_un, pm_un, pm_un] [] S 82 82 190091 K := by
  refine q_aload_n rfl rfl rfl ?_
  refine q_aload_nF rfl rfl rfl ?_
  refine q_iload rfl rfl rfl ?_
  refine q_iconst rfl rfl ?_
  refine q_iadd rfl rfl (q_tn (z := 1) rfl ?_)
  refine q_ialdX (x := x1) rfl rfl rfl hx1 ?_
  refine q_aload_nF rfl rfl rfl ?_
  refine q_iload rfl rfl rfl ?_
  refine q_iconst rfl rfl ?_
  refine q_iadd rfl rfl (q_tn (z := 2) rfl ?_)
  refine q_ialdX (x := x2) rfl rfl rfl hx2 ?_
  refine q_aload_nF rfl rfl rfl ?_
  refine q_iload rfl rfl rfl ?_
  refine q_iconst rfl rfl ?_
  refine q_iadd rfl rfl (q_tn (z := 3) rfl ?_)
  refine q_ialdX (x := x3) rfl rfl rfl hx3 ?_
  refine q_nV3 rfl rfl (Or.inl rfl) rfl rfl rfl (by decide) (FW_0 S hW) ⟨rfl, rfl⟩ rfl ?_
  change PQ _ _ _ mm_X11_fix 0 [.ref 0, .int x1, .int x2, .int x3] [] _ _ 0 0 _
  refine q_iload_n rfl rfl rfl ?_
  refine q_iconst rfl rfl ?_
  refine q_nS2 rfl rfl (Or.inl rfl) rfl rfl ⟨rfl, rfl⟩ rfl ?_
  change PQ _ _ _ mm_X11_within 0 [.int x1, .int 3] [] _ _ 0 0 _
  refine q_iload_n rfl rfl rfl ?_
  refine q_iflt rfl rfl (fun c1 => ?_) (fun c1 => ?_)
  · refine q_iconst rfl rfl ?_
    refine q_iret rfl rfl rfl ?_
    refine ⟨_, rfl, ?_⟩
    refine q_ifeq rfl rfl (fun c2 => ?_) (fun c2 => absurd (by decide) c2)
    refine q_iconst rfl rfl ?_
    refine q_iret rfl rfl trivial ?_
    refine ⟨_, rfl, ?_⟩
    refine q_aload_n rfl rfl rfl ?_
    refine q_aload_nF rfl rfl rfl ?_
    refine q_iload rfl rfl rfl ?_
    refine q_iconst rfl rfl ?_
    refine q_iadd rfl rfl (q_tn (z := 1) rfl ?_)
    refine q_ialdX (x := x1) rfl rfl rfl hx1 ?_
    refine q_aload_nF rfl rfl rfl ?_
    refine q_iload rfl rfl rfl ?_
    refine q_iconst rfl rfl ?_
    refine q_iadd rfl rfl (q_tn (z := 2) rfl ?_)
    refine q_ialdX (x := x2) rfl rfl rfl hx2 ?_
    refine q_aload_nF rfl rfl rfl ?_
    refine q_iload rfl rfl rfl ?_
    refine q_iconst rfl rfl ?_
    refine q_iadd rfl rfl (q_tn (z := 3) rfl ?_)
    refine q_ialdX (x := x3) rfl rfl rfl hx3 ?_
    refine q_nV3 rfl rfl (Or.inl rfl) rfl rfl rfl (by decide) (FW_46 S hW) ⟨rfl, rfl⟩ rfl ?_
    change PQ _ _ _ mm_X12_fix 0 [.ref 46, .int x1, .int x2, .int x3, pm_un, pm_un, pm_un] [] _ _ 0 0 _
    refine q_aload_n rfl rfl rfl ?_
    refine q_iload_n rfl rfl rfl ?_
    refine q_iconst rfl rfl ?_
    refine q_iconst rfl rfl ?_
    refine q_nV3 rfl rfl (Or.inl rfl) rfl rfl rfl (by decide) (FW_46 S hW) ⟨rfl, rfl⟩ rfl ?_
    change PQ _ _ _ mm_X12_in 0 [.ref 46, .int x1, .int 0, .int 2] [] _ _ 0 0 _
    refine q_iload_n rfl rfl rfl ?_
    refine q_iload_n rfl rfl rfl ?_
    refine q_iclt rfl rfl (fun c3 => ?_) (fun c3 => absurd (i_lt_t (i_ltle c1 (B := (-1)) rfl) rfl) c3)
    refine q_iconst rfl rfl ?_
    refine q_iret rfl rfl rfl ?_
    refine ⟨_, rfl, ?_⟩
    refine q_ifeq rfl rfl (fun c4 => ?_) (fun c4 => absurd (by decide) c4)
    refine q_iconst rfl rfl ?_
    refine q_iret rfl rfl trivial ?_
    refine ⟨_, rfl, ?_⟩
    refine q_iceq rfl rfl (fun c5 => ?_) (fun c5 => absurd (by decide) c5)
    refine q_icc4 (z := 6) rfl rfl rfl rfl rfl ?_
    refine q_goto rfl ?_
    refine q_iload rfl rfl rfl ?_
    refine q_aload_nF rfl rfl rfl ?_
    refine q_alenX (x := 6) rfl rfl rfl ?_
    refine q_bipush rfl rfl ?_
    refine q_isub rfl rfl (q_tn (z := 0) rfl ?_)
    refine q_icgt rfl rfl (fun c6 => ?_) (fun c6 => absurd (by decide) c6)
    refine q_iconst rfl rfl ?_
    refine q_iret rfl rfl rfl ?_
    exact hK _ _
  · refine q_iload_n rfl rfl rfl ?_
    refine q_iload_n rfl rfl rfl ?_
    refine q_icge rfl rfl (fun c7 => ?_) (fun c7 => ?_)
    · refine q_iconst rfl rfl ?_
      refine q_iret rfl rfl rfl ?_
      refine ⟨_, rfl, ?_⟩
      refine q_ifeq rfl rfl (fun c8 => ?_) (fun c8 => absurd (by decide) c8)
      refine q_iconst rfl rfl ?_
      refine q_iret rfl rfl trivial ?_
      refine ⟨_, rfl, ?_⟩
      refine q_aload_n rfl rfl rfl ?_
      refine q_aload_nF rfl rfl rfl ?_
      refine q_iload rfl rfl rfl ?_
      refine q_iconst rfl rfl ?_
      refine q_iadd rfl rfl (q_tn (z := 1) rfl ?_)
      refine q_ialdX (x := x1) rfl rfl rfl hx1 ?_
      refine q_aload_nF rfl rfl rfl ?_
      refine q_iload rfl rfl rfl ?_
      refine q_iconst rfl rfl ?_
      refine q_iadd rfl rfl (q_tn (z := 2) rfl ?_)
      refine q_ialdX (x := x2) rfl rfl rfl hx2 ?_
      refine q_aload_nF rfl rfl rfl ?_
      refine q_iload rfl rfl rfl ?_
      refine q_iconst rfl rfl ?_
      refine q_iadd rfl rfl (q_tn (z := 3) rfl ?_)
      refine q_ialdX (x := x3) rfl rfl rfl hx3 ?_
      refine q_nV3 rfl rfl (Or.inl rfl) rfl rfl rfl (by decide) (FW_46 S hW) ⟨rfl, rfl⟩ rfl ?_
      change PQ _ _ _ mm_X12_fix 0 [.ref 46, .int x1, .int x2, .int x3, pm_un, pm_un, pm_un] [] _ _ 0 0 _
      refine q_aload_n rfl rfl rfl ?_
      refine q_iload_n rfl rfl rfl ?_
      refine q_iconst rfl rfl ?_
      refine q_iconst rfl rfl ?_
      refine q_nV3 rfl rfl (Or.inl rfl) rfl rfl rfl (by decide) (FW_46 S hW) ⟨rfl, rfl⟩ rfl ?_
      change PQ _ _ _ mm_X12_in 0 [.ref 46, .int x1, .int 0, .int 2] [] _ _ 0 0 _
      refine q_iload_n rfl rfl rfl ?_
      refine q_iload_n rfl rfl rfl ?_
      refine q_iclt rfl rfl (fun c9 => absurd c9 (i_lt_f c7 rfl)) (fun c9 => ?_)
      refine q_iload_n rfl rfl rfl ?_
      refine q_iload_n rfl rfl rfl ?_
      refine q_icgt rfl rfl (fun c10 => ?_) (fun c10 => absurd (i_gt_t c7 rfl) c10)
      refine q_iconst rfl rfl ?_
      refine q_iret rfl rfl rfl ?_
      refine ⟨_, rfl, ?_⟩
      refine q_ifeq rfl rfl (fun c11 => ?_) (fun c11 => absurd (by decide) c11)
      refine q_iconst rfl rfl ?_
      refine q_iret rfl rfl trivial ?_
      refine ⟨_, rfl, ?_⟩
      refine q_iceq rfl rfl (fun c12 => ?_) (fun c12 => absurd (by decide) c12)
      refine q_icc4 (z := 6) rfl rfl rfl rfl rfl ?_
      refine q_goto rfl ?_
      refine q_iload rfl rfl rfl ?_
      refine q_aload_nF rfl rfl rfl ?_
      refine q_alenX (x := 6) rfl rfl rfl ?_
      refine q_bipush rfl rfl ?_
      refine q_isub rfl rfl (q_tn (z := 0) rfl ?_)
      refine q_icgt rfl rfl (fun c13 => ?_) (fun c13 => absurd (by decide) c13)
      refine q_iconst rfl rfl ?_
      refine q_iret rfl rfl rfl ?_
      exact hK _ _
    · refine q_iconst rfl rfl ?_
      refine q_goto rfl ?_
      refine q_iret rfl rfl rfl ?_
      refine ⟨_, rfl, ?_⟩
      refine q_ifeq rfl rfl (fun c14 => absurd c14 (by decide)) (fun c14 => ?_)
      refine q_iload_n rfl rfl rfl ?_
      refine q_iconst rfl rfl ?_
      refine q_nS2 rfl rfl (Or.inl rfl) rfl rfl ⟨rfl, rfl⟩ rfl ?_
      change PQ _ _ _ mm_X11_within 0 [.int x2, .int 4] [] _ _ 0 0 _
      refine q_iload_n rfl rfl rfl ?_
      refine q_iflt rfl rfl (fun c15 => ?_) (fun c15 => ?_)
      · refine q_iconst rfl rfl ?_
        refine q_iret rfl rfl rfl ?_
        refine ⟨_, rfl, ?_⟩
        refine q_ifeq rfl rfl (fun c16 => ?_) (fun c16 => absurd (by decide) c16)
        refine q_iconst rfl rfl ?_
        refine q_iret rfl rfl trivial ?_
        refine ⟨_, rfl, ?_⟩
        refine q_aload_n rfl rfl rfl ?_
        refine q_aload_nF rfl rfl rfl ?_
        refine q_iload rfl rfl rfl ?_
        refine q_iconst rfl rfl ?_
        refine q_iadd rfl rfl (q_tn (z := 1) rfl ?_)
        refine q_ialdX (x := x1) rfl rfl rfl hx1 ?_
        refine q_aload_nF rfl rfl rfl ?_
        refine q_iload rfl rfl rfl ?_
        refine q_iconst rfl rfl ?_
        refine q_iadd rfl rfl (q_tn (z := 2) rfl ?_)
        refine q_ialdX (x := x2) rfl rfl rfl hx2 ?_
        refine q_aload_nF rfl rfl rfl ?_
        refine q_iload rfl rfl rfl ?_
        refine q_iconst rfl rfl ?_
        refine q_iadd rfl rfl (q_tn (z := 3) rfl ?_)
        refine q_ialdX (x := x3) rfl rfl rfl hx3 ?_
        refine q_nV3 rfl rfl (Or.inl rfl) rfl rfl rfl (by decide) (FW_46 S hW) ⟨rfl, rfl⟩ rfl ?_
        change PQ _ _ _ mm_X12_fix 0 [.ref 46, .int x1, .int x2, .int x3, pm_un, pm_un, pm_un] [] _ _ 0 0 _
        refine q_aload_n rfl rfl rfl ?_
        refine q_iload_n rfl rfl rfl ?_
        refine q_iconst rfl rfl ?_
        refine q_iconst rfl rfl ?_
        refine q_nV3 rfl rfl (Or.inl rfl) rfl rfl rfl (by decide) (FW_46 S hW) ⟨rfl, rfl⟩ rfl ?_
        change PQ _ _ _ mm_X12_in 0 [.ref 46, .int x1, .int 0, .int 2] [] _ _ 0 0 _
        refine q_iload_n rfl rfl rfl ?_
        refine q_iload_n rfl rfl rfl ?_
        refine q_iclt rfl rfl (fun c17 => absurd c17 (i_lt_f (i_nlt c1) rfl)) (fun c17 => ?_)
        refine q_iload_n rfl rfl rfl ?_
        refine q_iload_n rfl rfl rfl ?_
        refine q_icgt rfl rfl (fun c18 => absurd c18 (i_gt_f (i_ltle (i_nle c7) (B := 2) rfl) rfl)) (fun c18 => ?_)
        refine q_iconst rfl rfl ?_
        refine q_goto rfl ?_
        refine q_iret rfl rfl rfl ?_
        refine ⟨_, rfl, ?_⟩
        refine q_ifeq rfl rfl (fun c19 => absurd c19 (by decide)) (fun c19 => ?_)
        refine q_aload_n rfl rfl rfl ?_
        refine q_iload_n rfl rfl rfl ?_
        refine q_nV1 rfl rfl (Or.inl rfl) rfl rfl rfl (by decide) (FW_46 S hW) ⟨rfl, rfl⟩ rfl ?_
        change PQ _ _ _ mm_X12_isPlace 0 [.ref 46, .int x2] [] _ _ 0 0 _
        refine q_aload_n rfl rfl rfl ?_
        refine q_iload_n rfl rfl rfl ?_
        refine q_iconst rfl rfl ?_
        refine q_iconst rfl rfl ?_
        refine q_nV3 rfl rfl (Or.inl rfl) rfl rfl rfl (by decide) (FW_46 S hW) ⟨rfl, rfl⟩ rfl ?_
        change PQ _ _ _ mm_X12_in 0 [.ref 46, .int x2, .int 0, .int 3] [] _ _ 0 0 _
        refine q_iload_n rfl rfl rfl ?_
        refine q_iload_n rfl rfl rfl ?_
        refine q_iclt rfl rfl (fun c20 => ?_) (fun c20 => absurd (i_lt_t (i_ltle c15 (B := (-1)) rfl) rfl) c20)
        refine q_iconst rfl rfl ?_
        refine q_iret rfl rfl rfl ?_
        refine ⟨_, rfl, ?_⟩
        refine q_iret rfl rfl rfl ?_
        refine ⟨_, rfl, ?_⟩
        refine q_ifeq rfl rfl (fun c21 => ?_) (fun c21 => absurd (by decide) c21)
        refine q_iconst rfl rfl ?_
        refine q_iret rfl rfl trivial ?_
        refine ⟨_, rfl, ?_⟩
        refine q_iceq rfl rfl (fun c22 => ?_) (fun c22 => absurd (by decide) c22)
        refine q_icc4 (z := 6) rfl rfl rfl rfl rfl ?_
        refine q_goto rfl ?_
        refine q_iload rfl rfl rfl ?_
        refine q_aload_nF rfl rfl rfl ?_
        refine q_alenX (x := 6) rfl rfl rfl ?_
        refine q_bipush rfl rfl ?_
        refine q_isub rfl rfl (q_tn (z := 0) rfl ?_)
        refine q_icgt rfl rfl (fun c23 => ?_) (fun c23 => absurd (by decide) c23)
        refine q_iconst rfl rfl ?_
        refine q_iret rfl rfl rfl ?_
        exact hK _ _
      · refine q_iload_n rfl rfl rfl ?_
        refine q_iload_n rfl rfl rfl ?_
        refine q_icge rfl rfl (fun c24 => ?_) (fun c24 => ?_)
        · refine q_iconst rfl rfl ?_
          refine q_iret rfl rfl rfl ?_
          refine ⟨_, rfl, ?_⟩
          refine q_ifeq rfl rfl (fun c25 => ?_) (fun c25 => absurd (by decide) c25)
          refine q_iconst rfl rfl ?_
          refine q_iret rfl rfl trivial ?_
          refine ⟨_, rfl, ?_⟩
          refine q_aload_n rfl rfl rfl ?_
          refine q_aload_nF rfl rfl rfl ?_
          refine q_iload rfl rfl rfl ?_
          refine q_iconst rfl rfl ?_
          refine q_iadd rfl rfl (q_tn (z := 1) rfl ?_)
          refine q_ialdX (x := x1) rfl rfl rfl hx1 ?_
          refine q_aload_nF rfl rfl rfl ?_
          refine q_iload rfl rfl rfl ?_
          refine q_iconst rfl rfl ?_
          refine q_iadd rfl rfl (q_tn (z := 2) rfl ?_)
          refine q_ialdX (x := x2) rfl rfl rfl hx2 ?_
          refine q_aload_nF rfl rfl rfl ?_
          refine q_iload rfl rfl rfl ?_
          refine q_iconst rfl rfl ?_
          refine q_iadd rfl rfl (q_tn (z := 3) rfl ?_)
          refine q_ialdX (x := x3) rfl rfl rfl hx3 ?_
          refine q_nV3 rfl rfl (Or.inl rfl) rfl rfl rfl (by decide) (FW_46 S hW) ⟨rfl, rfl⟩ rfl ?_
          change PQ _ _ _ mm_X12_fix 0 [.ref 46, .int x1, .int x2, .int x3, pm_un, pm_un, pm_un] [] _ _ 0 0 _
          refine q_aload_n rfl rfl rfl ?_
          refine q_iload_n rfl rfl rfl ?_
          refine q_iconst rfl rfl ?_
          refine q_iconst rfl rfl ?_
          refine q_nV3 rfl rfl (Or.inl rfl) rfl rfl rfl (by decide) (FW_46 S hW) ⟨rfl, rfl⟩ rfl ?_
          change PQ _ _ _ mm_X12_in 0 [.ref 46, .int x1, .int 0, .int 2] [] _ _ 0 0 _
          refine q_iload_n rfl rfl rfl ?_
          refine q_iload_n rfl rfl rfl ?_
          refine q_iclt rfl rfl (fun c26 => absurd c26 (i_lt_f (i_nlt c1) rfl)) (fun c26 => ?_)
          refine q_iload_n rfl rfl rfl ?_
          refine q_iload_n rfl rfl rfl ?_
          refine q_icgt rfl rfl (fun c27 => absurd c27 (i_gt_f (i_ltle (i_nle c7) (B := 2) rfl) rfl)) (fun c27 => ?_)
          refine q_iconst rfl rfl ?_
          refine q_goto rfl ?_
          refine q_iret rfl rfl rfl ?_
          refine ⟨_, rfl, ?_⟩
          refine q_ifeq rfl rfl (fun c28 => absurd c28 (by decide)) (fun c28 => ?_)
          refine q_aload_n rfl rfl rfl ?_
          refine q_iload_n rfl rfl rfl ?_
          refine q_nV1 rfl rfl (Or.inl rfl) rfl rfl rfl (by decide) (FW_46 S hW) ⟨rfl, rfl⟩ rfl ?_
          change PQ _ _ _ mm_X12_isPlace 0 [.ref 46, .int x2] [] _ _ 0 0 _
          refine q_aload_n rfl rfl rfl ?_
          refine q_iload_n rfl rfl rfl ?_
          refine q_iconst rfl rfl ?_
          refine q_iconst rfl rfl ?_
          refine q_nV3 rfl rfl (Or.inl rfl) rfl rfl rfl (by decide) (FW_46 S hW) ⟨rfl, rfl⟩ rfl ?_
          change PQ _ _ _ mm_X12_in 0 [.ref 46, .int x2, .int 0, .int 3] [] _ _ 0 0 _
          refine q_iload_n rfl rfl rfl ?_
          refine q_iload_n rfl rfl rfl ?_
          refine q_iclt rfl rfl (fun c29 => absurd c29 (i_lt_f c24 rfl)) (fun c29 => ?_)
          refine q_iload_n rfl rfl rfl ?_
          refine q_iload_n rfl rfl rfl ?_
          refine q_icgt rfl rfl (fun c30 => ?_) (fun c30 => absurd (i_gt_t c24 rfl) c30)
          refine q_iconst rfl rfl ?_
          refine q_iret rfl rfl rfl ?_
          refine ⟨_, rfl, ?_⟩
          refine q_iret rfl rfl rfl ?_
          refine ⟨_, rfl, ?_⟩
          refine q_ifeq rfl rfl (fun c31 => ?_) (fun c31 => absurd (by decide) c31)
          refine q_iconst rfl rfl ?_
          refine q_iret rfl rfl trivial ?_
          refine ⟨_, rfl, ?_⟩
          refine q_iceq rfl rfl (fun c32 => ?_) (fun c32 => absurd (by decide) c32)
          refine q_icc4 (z := 6) rfl rfl rfl rfl rfl ?_
          refine q_goto rfl ?_
          refine q_iload rfl rfl rfl ?_
          refine q_aload_nF rfl rfl rfl ?_
          refine q_alenX (x := 6) rfl rfl rfl ?_
          refine q_bipush rfl rfl ?_
          refine q_isub rfl rfl (q_tn (z := 0) rfl ?_)
          refine q_icgt rfl rfl (fun c33 => ?_) (fun c33 => absurd (by decide) c33)
          refine q_iconst rfl rfl ?_
          refine q_iret rfl rfl rfl ?_
          exact hK _ _
        · refine q_iconst rfl rfl ?_
          refine q_goto rfl ?_
          refine q_iret rfl rfl rfl ?_
          refine ⟨_, rfl, ?_⟩
          refine q_ifeq rfl rfl (fun c34 => absurd c34 (by decide)) (fun c34 => ?_)
          refine q_iload_n rfl rfl rfl ?_
          refine q_bipush rfl rfl ?_
          refine q_nS2 rfl rfl (Or.inl rfl) rfl rfl ⟨rfl, rfl⟩ rfl ?_
          change PQ _ _ _ mm_X11_within 0 [.int x3, .int 10] [] _ _ 0 0 _
          refine q_iload_n rfl rfl rfl ?_
          refine q_iflt rfl rfl (fun c35 => ?_) (fun c35 => ?_)
          · refine q_iconst rfl rfl ?_
            refine q_iret rfl rfl rfl ?_
            refine ⟨_, rfl, ?_⟩
            refine q_ifne rfl rfl (fun c36 => ?_) (fun c36 => absurd (by decide) c36)
            refine q_iconst rfl rfl ?_
            refine q_iret rfl rfl trivial ?_
            refine ⟨_, rfl, ?_⟩
            refine q_aload_n rfl rfl rfl ?_
            refine q_aload_nF rfl rfl rfl ?_
            refine q_iload rfl rfl rfl ?_
            refine q_iconst rfl rfl ?_
            refine q_iadd rfl rfl (q_tn (z := 1) rfl ?_)
            refine q_ialdX (x := x1) rfl rfl rfl hx1 ?_
            refine q_aload_nF rfl rfl rfl ?_
            refine q_iload rfl rfl rfl ?_
            refine q_iconst rfl rfl ?_
            refine q_iadd rfl rfl (q_tn (z := 2) rfl ?_)
            refine q_ialdX (x := x2) rfl rfl rfl hx2 ?_
            refine q_aload_nF rfl rfl rfl ?_
            refine q_iload rfl rfl rfl ?_
            refine q_iconst rfl rfl ?_
            refine q_iadd rfl rfl (q_tn (z := 3) rfl ?_)
            refine q_ialdX (x := x3) rfl rfl rfl hx3 ?_
            refine q_nV3 rfl rfl (Or.inl rfl) rfl rfl rfl (by decide) (FW_46 S hW) ⟨rfl, rfl⟩ rfl ?_
            change PQ _ _ _ mm_X12_fix 0 [.ref 46, .int x1, .int x2, .int x3, pm_un, pm_un, pm_un] [] _ _ 0 0 _
            refine q_aload_n rfl rfl rfl ?_
            refine q_iload_n rfl rfl rfl ?_
            refine q_iconst rfl rfl ?_
            refine q_iconst rfl rfl ?_
            refine q_nV3 rfl rfl (Or.inl rfl) rfl rfl rfl (by decide) (FW_46 S hW) ⟨rfl, rfl⟩ rfl ?_
            change PQ _ _ _ mm_X12_in 0 [.ref 46, .int x1, .int 0, .int 2] [] _ _ 0 0 _
            refine q_iload_n rfl rfl rfl ?_
            refine q_iload_n rfl rfl rfl ?_
            refine q_iclt rfl rfl (fun c37 => absurd c37 (i_lt_f (i_nlt c1) rfl)) (fun c37 => ?_)
            refine q_iload_n rfl rfl rfl ?_
            refine q_iload_n rfl rfl rfl ?_
            refine q_icgt rfl rfl (fun c38 => absurd c38 (i_gt_f (i_ltle (i_nle c7) (B := 2) rfl) rfl)) (fun c38 => ?_)
            refine q_iconst rfl rfl ?_
            refine q_goto rfl ?_
            refine q_iret rfl rfl rfl ?_
            refine ⟨_, rfl, ?_⟩
            refine q_ifeq rfl rfl (fun c39 => absurd c39 (by decide)) (fun c39 => ?_)
            refine q_aload_n rfl rfl rfl ?_
            refine q_iload_n rfl rfl rfl ?_
            refine q_nV1 rfl rfl (Or.inl rfl) rfl rfl rfl (by decide) (FW_46 S hW) ⟨rfl, rfl⟩ rfl ?_
            change PQ _ _ _ mm_X12_isPlace 0 [.ref 46, .int x2] [] _ _ 0 0 _
            refine q_aload_n rfl rfl rfl ?_
            refine q_iload_n rfl rfl rfl ?_
            refine q_iconst rfl rfl ?_
            refine q_iconst rfl rfl ?_
            refine q_nV3 rfl rfl (Or.inl rfl) rfl rfl rfl (by decide) (FW_46 S hW) ⟨rfl, rfl⟩ rfl ?_
            change PQ _ _ _ mm_X12_in 0 [.ref 46, .int x2, .int 0, .int 3] [] _ _ 0 0 _
            refine q_iload_n rfl rfl rfl ?_
            refine q_iload_n rfl rfl rfl ?_
            refine q_iclt rfl rfl (fun c40 => absurd c40 (i_lt_f (i_nlt c15) rfl)) (fun c40 => ?_)
            refine q_iload_n rfl rfl rfl ?_
            refine q_iload_n rfl rfl rfl ?_
            refine q_icgt rfl rfl (fun c41 => absurd c41 (i_gt_f (i_ltle (i_nle c24) (B := 3) rfl) rfl)) (fun c41 => ?_)
            refine q_iconst rfl rfl ?_
            refine q_goto rfl ?_
            refine q_iret rfl rfl rfl ?_
            refine ⟨_, rfl, ?_⟩
            refine q_iret rfl rfl rfl ?_
            refine ⟨_, rfl, ?_⟩
            refine q_ifeq rfl rfl (fun c42 => absurd c42 (by decide)) (fun c42 => ?_)
            refine q_aload_n rfl rfl rfl ?_
            refine q_iload_n rfl rfl rfl ?_
            refine q_iconst rfl rfl ?_
            refine q_bipush rfl rfl ?_
            refine q_nV3 rfl rfl (Or.inl rfl) rfl rfl rfl (by decide) (FW_46 S hW) ⟨rfl, rfl⟩ rfl ?_
            change PQ _ _ _ mm_X12_in 0 [.ref 46, .int x3, .int 0, .int 9] [] _ _ 0 0 _
            refine q_iload_n rfl rfl rfl ?_
            refine q_iload_n rfl rfl rfl ?_
            refine q_iclt rfl rfl (fun c43 => ?_) (fun c43 => absurd (i_lt_t (i_ltle c35 (B := (-1)) rfl) rfl) c43)
            refine q_iconst rfl rfl ?_
            refine q_iret rfl rfl rfl ?_
            refine ⟨_, rfl, ?_⟩
            refine q_ifne rfl rfl (fun c44 => ?_) (fun c44 => absurd (by decide) c44)
            refine q_iconst rfl rfl ?_
            refine q_iret rfl rfl trivial ?_
            refine ⟨_, rfl, ?_⟩
            refine q_iceq rfl rfl (fun c45 => ?_) (fun c45 => absurd (by decide) c45)
            refine q_icc4 (z := 6) rfl rfl rfl rfl rfl ?_
            refine q_goto rfl ?_
            refine q_iload rfl rfl rfl ?_
            refine q_aload_nF rfl rfl rfl ?_
            refine q_alenX (x := 6) rfl rfl rfl ?_
            refine q_bipush rfl rfl ?_
            refine q_isub rfl rfl (q_tn (z := 0) rfl ?_)
            refine q_icgt rfl rfl (fun c46 => ?_) (fun c46 => absurd (by decide) c46)
            refine q_iconst rfl rfl ?_
            refine q_iret rfl rfl rfl ?_
            exact hK _ _
          · refine q_iload_n rfl rfl rfl ?_
            refine q_iload_n rfl rfl rfl ?_
            refine q_icge rfl rfl (fun c47 => ?_) (fun c47 => ?_)
            · refine q_iconst rfl rfl ?_
              refine q_iret rfl rfl rfl ?_
              refine ⟨_, rfl, ?_⟩
              refine q_ifne rfl rfl (fun c48 => ?_) (fun c48 => absurd (by decide) c48)
              refine q_iconst rfl rfl ?_
              refine q_iret rfl rfl trivial ?_
              refine ⟨_, rfl, ?_⟩
              refine q_aload_n rfl rfl rfl ?_
              refine q_aload_nF rfl rfl rfl ?_
              refine q_iload rfl rfl rfl ?_
              refine q_iconst rfl rfl ?_
              refine q_iadd rfl rfl (q_tn (z := 1) rfl ?_)
              refine q_ialdX (x := x1) rfl rfl rfl hx1 ?_
              refine q_aload_nF rfl rfl rfl ?_
              refine q_iload rfl rfl rfl ?_
              refine q_iconst rfl rfl ?_
              refine q_iadd rfl rfl (q_tn (z := 2) rfl ?_)
              refine q_ialdX (x := x2) rfl rfl rfl hx2 ?_
              refine q_aload_nF rfl rfl rfl ?_
              refine q_iload rfl rfl rfl ?_
              refine q_iconst rfl rfl ?_
              refine q_iadd rfl rfl (q_tn (z := 3) rfl ?_)
              refine q_ialdX (x := x3) rfl rfl rfl hx3 ?_
              refine q_nV3 rfl rfl (Or.inl rfl) rfl rfl rfl (by decide) (FW_46 S hW) ⟨rfl, rfl⟩ rfl ?_
              change PQ _ _ _ mm_X12_fix 0 [.ref 46, .int x1, .int x2, .int x3, pm_un, pm_un, pm_un] [] _ _ 0 0 _
              refine q_aload_n rfl rfl rfl ?_
              refine q_iload_n rfl rfl rfl ?_
              refine q_iconst rfl rfl ?_
              refine q_iconst rfl rfl ?_
              refine q_nV3 rfl rfl (Or.inl rfl) rfl rfl rfl (by decide) (FW_46 S hW) ⟨rfl, rfl⟩ rfl ?_
              change PQ _ _ _ mm_X12_in 0 [.ref 46, .int x1, .int 0, .int 2] [] _ _ 0 0 _
              refine q_iload_n rfl rfl rfl ?_
              refine q_iload_n rfl rfl rfl ?_
              refine q_iclt rfl rfl (fun c49 => absurd c49 (i_lt_f (i_nlt c1) rfl)) (fun c49 => ?_)
              refine q_iload_n rfl rfl rfl ?_
              refine q_iload_n rfl rfl rfl ?_
              refine q_icgt rfl rfl (fun c50 => absurd c50 (i_gt_f (i_ltle (i_nle c7) (B := 2) rfl) rfl)) (fun c50 => ?_)
              refine q_iconst rfl rfl ?_
              refine q_goto rfl ?_
              refine q_iret rfl rfl rfl ?_
              refine ⟨_, rfl, ?_⟩
              refine q_ifeq rfl rfl (fun c51 => absurd c51 (by decide)) (fun c51 => ?_)
              refine q_aload_n rfl rfl rfl ?_
              refine q_iload_n rfl rfl rfl ?_
              refine q_nV1 rfl rfl (Or.inl rfl) rfl rfl rfl (by decide) (FW_46 S hW) ⟨rfl, rfl⟩ rfl ?_
              change PQ _ _ _ mm_X12_isPlace 0 [.ref 46, .int x2] [] _ _ 0 0 _
              refine q_aload_n rfl rfl rfl ?_
              refine q_iload_n rfl rfl rfl ?_
              refine q_iconst rfl rfl ?_
              refine q_iconst rfl rfl ?_
              refine q_nV3 rfl rfl (Or.inl rfl) rfl rfl rfl (by decide) (FW_46 S hW) ⟨rfl, rfl⟩ rfl ?_
              change PQ _ _ _ mm_X12_in 0 [.ref 46, .int x2, .int 0, .int 3] [] _ _ 0 0 _
              refine q_iload_n rfl rfl rfl ?_
              refine q_iload_n rfl rfl rfl ?_
              refine q_iclt rfl rfl (fun c52 => absurd c52 (i_lt_f (i_nlt c15) rfl)) (fun c52 => ?_)
              refine q_iload_n rfl rfl rfl ?_
              refine q_iload_n rfl rfl rfl ?_
              refine q_icgt rfl rfl (fun c53 => absurd c53 (i_gt_f (i_ltle (i_nle c24) (B := 3) rfl) rfl)) (fun c53 => ?_)
              refine q_iconst rfl rfl ?_
              refine q_goto rfl ?_
              refine q_iret rfl rfl rfl ?_
              refine ⟨_, rfl, ?_⟩
              refine q_iret rfl rfl rfl ?_
              refine ⟨_, rfl, ?_⟩
              refine q_ifeq rfl rfl (fun c54 => absurd c54 (by decide)) (fun c54 => ?_)
              refine q_aload_n rfl rfl rfl ?_
              refine q_iload_n rfl rfl rfl ?_
              refine q_iconst rfl rfl ?_
              refine q_bipush rfl rfl ?_
              refine q_nV3 rfl rfl (Or.inl rfl) rfl rfl rfl (by decide) (FW_46 S hW) ⟨rfl, rfl⟩ rfl ?_
              change PQ _ _ _ mm_X12_in 0 [.ref 46, .int x3, .int 0, .int 9] [] _ _ 0 0 _
              refine q_iload_n rfl rfl rfl ?_
              refine q_iload_n rfl rfl rfl ?_
              refine q_iclt rfl rfl (fun c55 => absurd c55 (i_lt_f c47 rfl)) (fun c55 => ?_)
              refine q_iload_n rfl rfl rfl ?_
              refine q_iload_n rfl rfl rfl ?_
              refine q_icgt rfl rfl (fun c56 => ?_) (fun c56 => absurd (i_gt_t c47 rfl) c56)
              refine q_iconst rfl rfl ?_
              refine q_iret rfl rfl rfl ?_
              refine ⟨_, rfl, ?_⟩
              refine q_ifne rfl rfl (fun c57 => ?_) (fun c57 => absurd (by decide) c57)
              refine q_iconst rfl rfl ?_
              refine q_iret rfl rfl trivial ?_
              refine ⟨_, rfl, ?_⟩
              refine q_iceq rfl rfl (fun c58 => ?_) (fun c58 => absurd (by decide) c58)
              refine q_icc4 (z := 6) rfl rfl rfl rfl rfl ?_
              refine q_goto rfl ?_
              refine q_iload rfl rfl rfl ?_
              refine q_aload_nF rfl rfl rfl ?_
              refine q_alenX (x := 6) rfl rfl rfl ?_
              refine q_bipush rfl rfl ?_
              refine q_isub rfl rfl (q_tn (z := 0) rfl ?_)
              refine q_icgt rfl rfl (fun c59 => ?_) (fun c59 => absurd (by decide) c59)
              refine q_iconst rfl rfl ?_
              refine q_iret rfl rfl rfl ?_
              exact hK _ _
            · refine q_iconst rfl rfl ?_
              refine q_goto rfl ?_
              refine q_iret rfl rfl rfl ?_
              refine ⟨_, rfl, ?_⟩
              refine q_ifne rfl rfl (fun c60 => absurd c60 (by decide)) (fun c60 => ?_)
              refine q_aload_n rfl rfl rfl ?_
              refine q_getf rfl rfl (by decide) (FW_0 S hW) rfl ?_
              refine q_nV0 rfl rfl (Or.inl rfl) rfl rfl rfl (by decide) (FW_32 S hW) ⟨rfl, rfl⟩ rfl ?_
              change PQ _ _ _ mm_X1_fits 0 [.ref 32] [] _ _ 0 0 _
              refine q_aload_n rfl rfl rfl ?_
              refine q_getf rfl rfl (by decide) (FW_32 S hW) rfl ?_
              refine q_getf rfl rfl (by decide) (FW_1 S hW) rfl ?_
              refine q_iconst rfl rfl ?_
              refine q_icne rfl rfl (fun c61 => absurd c61 (by decide)) (fun c61 => ?_)
              refine q_iconst rfl rfl ?_
              refine q_iret rfl rfl rfl ?_
              refine ⟨_, rfl, ?_⟩
              refine q_ifeq rfl rfl (fun c62 => ?_) (fun c62 => absurd (by decide) c62)
              refine q_bipush rfl rfl ?_
              refine q_iret rfl rfl trivial ?_
              refine ⟨_, rfl, ?_⟩
              refine q_aload_n rfl rfl rfl ?_
              refine q_aload_nF rfl rfl rfl ?_
              refine q_iload rfl rfl rfl ?_
              refine q_iconst rfl rfl ?_
              refine q_iadd rfl rfl (q_tn (z := 1) rfl ?_)
              refine q_ialdX (x := x1) rfl rfl rfl hx1 ?_
              refine q_aload_nF rfl rfl rfl ?_
              refine q_iload rfl rfl rfl ?_
              refine q_iconst rfl rfl ?_
              refine q_iadd rfl rfl (q_tn (z := 2) rfl ?_)
              refine q_ialdX (x := x2) rfl rfl rfl hx2 ?_
              refine q_aload_nF rfl rfl rfl ?_
              refine q_iload rfl rfl rfl ?_
              refine q_iconst rfl rfl ?_
              refine q_iadd rfl rfl (q_tn (z := 3) rfl ?_)
              refine q_ialdX (x := x3) rfl rfl rfl hx3 ?_
              refine q_nV3 rfl rfl (Or.inl rfl) rfl rfl rfl (by decide) (FW_46 S hW) ⟨rfl, rfl⟩ rfl ?_
              change PQ _ _ _ mm_X12_fix 0 [.ref 46, .int x1, .int x2, .int x3, pm_un, pm_un, pm_un] [] _ _ 0 0 _
              refine q_aload_n rfl rfl rfl ?_
              refine q_iload_n rfl rfl rfl ?_
              refine q_iconst rfl rfl ?_
              refine q_iconst rfl rfl ?_
              refine q_nV3 rfl rfl (Or.inl rfl) rfl rfl rfl (by decide) (FW_46 S hW) ⟨rfl, rfl⟩ rfl ?_
              change PQ _ _ _ mm_X12_in 0 [.ref 46, .int x1, .int 0, .int 2] [] _ _ 0 0 _
              refine q_iload_n rfl rfl rfl ?_
              refine q_iload_n rfl rfl rfl ?_
              refine q_iclt rfl rfl (fun c63 => absurd c63 (i_lt_f (i_nlt c1) rfl)) (fun c63 => ?_)
              refine q_iload_n rfl rfl rfl ?_
              refine q_iload_n rfl rfl rfl ?_
              refine q_icgt rfl rfl (fun c64 => absurd c64 (i_gt_f (i_ltle (i_nle c7) (B := 2) rfl) rfl)) (fun c64 => ?_)
              refine q_iconst rfl rfl ?_
              refine q_goto rfl ?_
              refine q_iret rfl rfl rfl ?_
              refine ⟨_, rfl, ?_⟩
              refine q_ifeq rfl rfl (fun c65 => absurd c65 (by decide)) (fun c65 => ?_)
              refine q_aload_n rfl rfl rfl ?_
              refine q_iload_n rfl rfl rfl ?_
              refine q_nV1 rfl rfl (Or.inl rfl) rfl rfl rfl (by decide) (FW_46 S hW) ⟨rfl, rfl⟩ rfl ?_
              change PQ _ _ _ mm_X12_isPlace 0 [.ref 46, .int x2] [] _ _ 0 0 _
              refine q_aload_n rfl rfl rfl ?_
              refine q_iload_n rfl rfl rfl ?_
              refine q_iconst rfl rfl ?_
              refine q_iconst rfl rfl ?_
              refine q_nV3 rfl rfl (Or.inl rfl) rfl rfl rfl (by decide) (FW_46 S hW) ⟨rfl, rfl⟩ rfl ?_
              change PQ _ _ _ mm_X12_in 0 [.ref 46, .int x2, .int 0, .int 3] [] _ _ 0 0 _
              refine q_iload_n rfl rfl rfl ?_
              refine q_iload_n rfl rfl rfl ?_
              refine q_iclt rfl rfl (fun c66 => absurd c66 (i_lt_f (i_nlt c15) rfl)) (fun c66 => ?_)
              refine q_iload_n rfl rfl rfl ?_
              refine q_iload_n rfl rfl rfl ?_
              refine q_icgt rfl rfl (fun c67 => absurd c67 (i_gt_f (i_ltle (i_nle c24) (B := 3) rfl) rfl)) (fun c67 => ?_)
              refine q_iconst rfl rfl ?_
              refine q_goto rfl ?_
              refine q_iret rfl rfl rfl ?_
              refine ⟨_, rfl, ?_⟩
              refine q_iret rfl rfl rfl ?_
              refine ⟨_, rfl, ?_⟩
              refine q_ifeq rfl rfl (fun c68 => absurd c68 (by decide)) (fun c68 => ?_)
              refine q_aload_n rfl rfl rfl ?_
              refine q_iload_n rfl rfl rfl ?_
              refine q_iconst rfl rfl ?_
              refine q_bipush rfl rfl ?_
              refine q_nV3 rfl rfl (Or.inl rfl) rfl rfl rfl (by decide) (FW_46 S hW) ⟨rfl, rfl⟩ rfl ?_
              change PQ _ _ _ mm_X12_in 0 [.ref 46, .int x3, .int 0, .int 9] [] _ _ 0 0 _
              refine q_iload_n rfl rfl rfl ?_
              refine q_iload_n rfl rfl rfl ?_
              refine q_iclt rfl rfl (fun c69 => absurd c69 (i_lt_f (i_nlt c35) rfl)) (fun c69 => ?_)
              refine q_iload_n rfl rfl rfl ?_
              refine q_iload_n rfl rfl rfl ?_
              refine q_icgt rfl rfl (fun c70 => absurd c70 (i_gt_f (i_ltle (i_nle c47) (B := 9) rfl) rfl)) (fun c70 => ?_)
              refine q_iconst rfl rfl ?_
              refine q_goto rfl ?_
              refine q_iret rfl rfl rfl ?_
              refine ⟨_, rfl, ?_⟩
              refine q_ifne rfl rfl (fun c71 => absurd c71 (by decide)) (fun c71 => ?_)
              refine q_aload_n rfl rfl rfl ?_
              refine q_getf rfl rfl (by decide) (FW_46 S hW) rfl ?_
              refine q_iconst rfl rfl ?_
              refine q_icne rfl rfl (fun c72 => absurd c72 (by decide)) (fun c72 => ?_)
              refine q_bipush rfl rfl ?_
              refine q_iret rfl rfl trivial ?_
              refine ⟨_, rfl, ?_⟩
              refine q_iceq rfl rfl (fun c73 => ?_) (fun c73 => absurd (by decide) c73)
              refine q_icc4 (z := 6) rfl rfl rfl rfl rfl ?_
              refine q_goto rfl ?_
              refine q_iload rfl rfl rfl ?_
              refine q_aload_nF rfl rfl rfl ?_
              refine q_alenX (x := 6) rfl rfl rfl ?_
              refine q_bipush rfl rfl ?_
              refine q_isub rfl rfl (q_tn (z := 0) rfl ?_)
              refine q_icgt rfl rfl (fun c74 => ?_) (fun c74 => absurd (by decide) c74)
              refine q_iconst rfl rfl ?_
              refine q_iret rfl rfl rfl ?_
              exact hK _ _
set_option maxHeartbeats 40000000 in
set_option maxRecDepth 20000 in
theorem t_op18 {S : Nat → pm_E} (hW : FW S) {x1 x2 x3 x4 x5 : Int32} (hx1 : xs 1 = x1) (hx2 : xs 2 = x2) (hx3 : xs 3 = x3) (hx4 : xs 4 = x4) (hx5 : xs 5 = x5) (hK : ∀ S n, K (some (.int 1)) S n) : PQ (j_SL 6) (j_SV xs) EX mm_L_law 814 [.float 5, .ref 0, .ref 46, .ref 81, .int 0, pm_un, pm_un, pm_un] [] S 82 82 190091 K := by
  refine q_aload_n rfl rfl rfl ?_
  refine q_aload_nF rfl rfl rfl ?_
  refine q_iload rfl rfl rfl ?_
  refine q_iconst rfl rfl ?_
  refine q_iadd rfl rfl (q_tn (z := 1) rfl ?_)
  refine q_ialdX (x := x1) rfl rfl rfl hx1 ?_
  refine q_aload_nF rfl rfl rfl ?_
  refine q_iload rfl rfl rfl ?_
  refine q_iconst rfl rfl ?_
  refine q_iadd rfl rfl (q_tn (z := 2) rfl ?_)
  refine q_ialdX (x := x2) rfl rfl rfl hx2 ?_
  refine q_nV2 rfl rfl (Or.inl rfl) rfl rfl rfl (by decide) (FW_0 S hW) ⟨rfl, rfl⟩ rfl ?_
  change PQ _ _ _ mm_X11_fixed 0 [.ref 0, .int x1, .int x2] [] _ _ 0 0 _
  refine q_iload_n rfl rfl rfl ?_
  refine q_iconst rfl rfl ?_
  refine q_nS2 rfl rfl (Or.inl rfl) rfl rfl ⟨rfl, rfl⟩ rfl ?_
  change PQ _ _ _ mm_X11_within 0 [.int x1, .int 2] [] _ _ 0 0 _
  refine q_iload_n rfl rfl rfl ?_
  refine q_iflt rfl rfl (fun c1 => ?_) (fun c1 => ?_)
  · refine q_iconst rfl rfl ?_
    refine q_iret rfl rfl rfl ?_
    refine ⟨_, rfl, ?_⟩
    refine q_ifeq rfl rfl (fun c2 => ?_) (fun c2 => absurd (by decide) c2)
    refine q_iconst rfl rfl ?_
    refine q_iret rfl rfl trivial ?_
    refine ⟨_, rfl, ?_⟩
    refine q_aload_n rfl rfl rfl ?_
    refine q_aload_nF rfl rfl rfl ?_
    refine q_iload rfl rfl rfl ?_
    refine q_iconst rfl rfl ?_
    refine q_iadd rfl rfl (q_tn (z := 1) rfl ?_)
    refine q_ialdX (x := x1) rfl rfl rfl hx1 ?_
    refine q_aload_nF rfl rfl rfl ?_
    refine q_iload rfl rfl rfl ?_
    refine q_iconst rfl rfl ?_
    refine q_iadd rfl rfl (q_tn (z := 2) rfl ?_)
    refine q_ialdX (x := x2) rfl rfl rfl hx2 ?_
    refine q_nV2 rfl rfl (Or.inl rfl) rfl rfl rfl (by decide) (FW_46 S hW) ⟨rfl, rfl⟩ rfl ?_
    change PQ _ _ _ mm_X12_fixed 0 [.ref 46, .int x1, .int x2] [] _ _ 0 0 _
    refine q_aload_n rfl rfl rfl ?_
    refine q_iload_n rfl rfl rfl ?_
    refine q_iconst rfl rfl ?_
    refine q_iconst rfl rfl ?_
    refine q_nV3 rfl rfl (Or.inl rfl) rfl rfl rfl (by decide) (FW_46 S hW) ⟨rfl, rfl⟩ rfl ?_
    change PQ _ _ _ mm_X12_in 0 [.ref 46, .int x1, .int 0, .int 1] [] _ _ 0 0 _
    refine q_iload_n rfl rfl rfl ?_
    refine q_iload_n rfl rfl rfl ?_
    refine q_iclt rfl rfl (fun c3 => ?_) (fun c3 => absurd (i_lt_t (i_ltle c1 (B := (-1)) rfl) rfl) c3)
    refine q_iconst rfl rfl ?_
    refine q_iret rfl rfl rfl ?_
    refine ⟨_, rfl, ?_⟩
    refine q_ifeq rfl rfl (fun c4 => ?_) (fun c4 => absurd (by decide) c4)
    refine q_iconst rfl rfl ?_
    refine q_iret rfl rfl trivial ?_
    refine ⟨_, rfl, ?_⟩
    refine q_iceq rfl rfl (fun c5 => ?_) (fun c5 => absurd (by decide) c5)
    refine q_icc4 (z := 6) rfl rfl rfl rfl rfl ?_
    refine q_goto rfl ?_
    refine q_iload rfl rfl rfl ?_
    refine q_aload_nF rfl rfl rfl ?_
    refine q_alenX (x := 6) rfl rfl rfl ?_
    refine q_bipush rfl rfl ?_
    refine q_isub rfl rfl (q_tn (z := 0) rfl ?_)
    refine q_icgt rfl rfl (fun c6 => ?_) (fun c6 => absurd (by decide) c6)
    refine q_iconst rfl rfl ?_
    refine q_iret rfl rfl rfl ?_
    exact hK _ _
  · refine q_iload_n rfl rfl rfl ?_
    refine q_iload_n rfl rfl rfl ?_
    refine q_icge rfl rfl (fun c7 => ?_) (fun c7 => ?_)
    · refine q_iconst rfl rfl ?_
      refine q_iret rfl rfl rfl ?_
      refine ⟨_, rfl, ?_⟩
      refine q_ifeq rfl rfl (fun c8 => ?_) (fun c8 => absurd (by decide) c8)
      refine q_iconst rfl rfl ?_
      refine q_iret rfl rfl trivial ?_
      refine ⟨_, rfl, ?_⟩
      refine q_aload_n rfl rfl rfl ?_
      refine q_aload_nF rfl rfl rfl ?_
      refine q_iload rfl rfl rfl ?_
      refine q_iconst rfl rfl ?_
      refine q_iadd rfl rfl (q_tn (z := 1) rfl ?_)
      refine q_ialdX (x := x1) rfl rfl rfl hx1 ?_
      refine q_aload_nF rfl rfl rfl ?_
      refine q_iload rfl rfl rfl ?_
      refine q_iconst rfl rfl ?_
      refine q_iadd rfl rfl (q_tn (z := 2) rfl ?_)
      refine q_ialdX (x := x2) rfl rfl rfl hx2 ?_
      refine q_nV2 rfl rfl (Or.inl rfl) rfl rfl rfl (by decide) (FW_46 S hW) ⟨rfl, rfl⟩ rfl ?_
      change PQ _ _ _ mm_X12_fixed 0 [.ref 46, .int x1, .int x2] [] _ _ 0 0 _
      refine q_aload_n rfl rfl rfl ?_
      refine q_iload_n rfl rfl rfl ?_
      refine q_iconst rfl rfl ?_
      refine q_iconst rfl rfl ?_
      refine q_nV3 rfl rfl (Or.inl rfl) rfl rfl rfl (by decide) (FW_46 S hW) ⟨rfl, rfl⟩ rfl ?_
      change PQ _ _ _ mm_X12_in 0 [.ref 46, .int x1, .int 0, .int 1] [] _ _ 0 0 _
      refine q_iload_n rfl rfl rfl ?_
      refine q_iload_n rfl rfl rfl ?_
      refine q_iclt rfl rfl (fun c9 => absurd c9 (i_lt_f c7 rfl)) (fun c9 => ?_)
      refine q_iload_n rfl rfl rfl ?_
      refine q_iload_n rfl rfl rfl ?_
      refine q_icgt rfl rfl (fun c10 => ?_) (fun c10 => absurd (i_gt_t c7 rfl) c10)
      refine q_iconst rfl rfl ?_
      refine q_iret rfl rfl rfl ?_
      refine ⟨_, rfl, ?_⟩
      refine q_ifeq rfl rfl (fun c11 => ?_) (fun c11 => absurd (by decide) c11)
      refine q_iconst rfl rfl ?_
      refine q_iret rfl rfl trivial ?_
      refine ⟨_, rfl, ?_⟩
      refine q_iceq rfl rfl (fun c12 => ?_) (fun c12 => absurd (by decide) c12)
      refine q_icc4 (z := 6) rfl rfl rfl rfl rfl ?_
      refine q_goto rfl ?_
      refine q_iload rfl rfl rfl ?_
      refine q_aload_nF rfl rfl rfl ?_
      refine q_alenX (x := 6) rfl rfl rfl ?_
      refine q_bipush rfl rfl ?_
      refine q_isub rfl rfl (q_tn (z := 0) rfl ?_)
      refine q_icgt rfl rfl (fun c13 => ?_) (fun c13 => absurd (by decide) c13)
      refine q_iconst rfl rfl ?_
      refine q_iret rfl rfl rfl ?_
      exact hK _ _
    · refine q_iconst rfl rfl ?_
      refine q_goto rfl ?_
      refine q_iret rfl rfl rfl ?_
      refine ⟨_, rfl, ?_⟩
      refine q_ifeq rfl rfl (fun c14 => absurd c14 (by decide)) (fun c14 => ?_)
      refine q_iload_n rfl rfl rfl ?_
      refine q_iconst rfl rfl ?_
      refine q_nS2 rfl rfl (Or.inl rfl) rfl rfl ⟨rfl, rfl⟩ rfl ?_
      change PQ _ _ _ mm_X11_within 0 [.int x2, .int 2] [] _ _ 0 0 _
      refine q_iload_n rfl rfl rfl ?_
      refine q_iflt rfl rfl (fun c15 => ?_) (fun c15 => ?_)
      · refine q_iconst rfl rfl ?_
        refine q_iret rfl rfl rfl ?_
        refine ⟨_, rfl, ?_⟩
        refine q_ifne rfl rfl (fun c16 => ?_) (fun c16 => absurd (by decide) c16)
        refine q_iconst rfl rfl ?_
        refine q_iret rfl rfl trivial ?_
        refine ⟨_, rfl, ?_⟩
        refine q_aload_n rfl rfl rfl ?_
        refine q_aload_nF rfl rfl rfl ?_
        refine q_iload rfl rfl rfl ?_
        refine q_iconst rfl rfl ?_
        refine q_iadd rfl rfl (q_tn (z := 1) rfl ?_)
        refine q_ialdX (x := x1) rfl rfl rfl hx1 ?_
        refine q_aload_nF rfl rfl rfl ?_
        refine q_iload rfl rfl rfl ?_
        refine q_iconst rfl rfl ?_
        refine q_iadd rfl rfl (q_tn (z := 2) rfl ?_)
        refine q_ialdX (x := x2) rfl rfl rfl hx2 ?_
        refine q_nV2 rfl rfl (Or.inl rfl) rfl rfl rfl (by decide) (FW_46 S hW) ⟨rfl, rfl⟩ rfl ?_
        change PQ _ _ _ mm_X12_fixed 0 [.ref 46, .int x1, .int x2] [] _ _ 0 0 _
        refine q_aload_n rfl rfl rfl ?_
        refine q_iload_n rfl rfl rfl ?_
        refine q_iconst rfl rfl ?_
        refine q_iconst rfl rfl ?_
        refine q_nV3 rfl rfl (Or.inl rfl) rfl rfl rfl (by decide) (FW_46 S hW) ⟨rfl, rfl⟩ rfl ?_
        change PQ _ _ _ mm_X12_in 0 [.ref 46, .int x1, .int 0, .int 1] [] _ _ 0 0 _
        refine q_iload_n rfl rfl rfl ?_
        refine q_iload_n rfl rfl rfl ?_
        refine q_iclt rfl rfl (fun c17 => absurd c17 (i_lt_f (i_nlt c1) rfl)) (fun c17 => ?_)
        refine q_iload_n rfl rfl rfl ?_
        refine q_iload_n rfl rfl rfl ?_
        refine q_icgt rfl rfl (fun c18 => absurd c18 (i_gt_f (i_ltle (i_nle c7) (B := 1) rfl) rfl)) (fun c18 => ?_)
        refine q_iconst rfl rfl ?_
        refine q_goto rfl ?_
        refine q_iret rfl rfl rfl ?_
        refine ⟨_, rfl, ?_⟩
        refine q_ifeq rfl rfl (fun c19 => absurd c19 (by decide)) (fun c19 => ?_)
        refine q_aload_n rfl rfl rfl ?_
        refine q_iload_n rfl rfl rfl ?_
        refine q_iconst rfl rfl ?_
        refine q_iconst rfl rfl ?_
        refine q_nV3 rfl rfl (Or.inl rfl) rfl rfl rfl (by decide) (FW_46 S hW) ⟨rfl, rfl⟩ rfl ?_
        change PQ _ _ _ mm_X12_in 0 [.ref 46, .int x2, .int 0, .int 1] [] _ _ 0 0 _
        refine q_iload_n rfl rfl rfl ?_
        refine q_iload_n rfl rfl rfl ?_
        refine q_iclt rfl rfl (fun c20 => ?_) (fun c20 => absurd (i_lt_t (i_ltle c15 (B := (-1)) rfl) rfl) c20)
        refine q_iconst rfl rfl ?_
        refine q_iret rfl rfl rfl ?_
        refine ⟨_, rfl, ?_⟩
        refine q_ifne rfl rfl (fun c21 => ?_) (fun c21 => absurd (by decide) c21)
        refine q_iconst rfl rfl ?_
        refine q_iret rfl rfl trivial ?_
        refine ⟨_, rfl, ?_⟩
        refine q_iceq rfl rfl (fun c22 => ?_) (fun c22 => absurd (by decide) c22)
        refine q_icc4 (z := 6) rfl rfl rfl rfl rfl ?_
        refine q_goto rfl ?_
        refine q_iload rfl rfl rfl ?_
        refine q_aload_nF rfl rfl rfl ?_
        refine q_alenX (x := 6) rfl rfl rfl ?_
        refine q_bipush rfl rfl ?_
        refine q_isub rfl rfl (q_tn (z := 0) rfl ?_)
        refine q_icgt rfl rfl (fun c23 => ?_) (fun c23 => absurd (by decide) c23)
        refine q_iconst rfl rfl ?_
        refine q_iret rfl rfl rfl ?_
        exact hK _ _
      · refine q_iload_n rfl rfl rfl ?_
        refine q_iload_n rfl rfl rfl ?_
        refine q_icge rfl rfl (fun c24 => ?_) (fun c24 => ?_)
        · refine q_iconst rfl rfl ?_
          refine q_iret rfl rfl rfl ?_
          refine ⟨_, rfl, ?_⟩
          refine q_ifne rfl rfl (fun c25 => ?_) (fun c25 => absurd (by decide) c25)
          refine q_iconst rfl rfl ?_
          refine q_iret rfl rfl trivial ?_
          refine ⟨_, rfl, ?_⟩
          refine q_aload_n rfl rfl rfl ?_
          refine q_aload_nF rfl rfl rfl ?_
          refine q_iload rfl rfl rfl ?_
          refine q_iconst rfl rfl ?_
          refine q_iadd rfl rfl (q_tn (z := 1) rfl ?_)
          refine q_ialdX (x := x1) rfl rfl rfl hx1 ?_
          refine q_aload_nF rfl rfl rfl ?_
          refine q_iload rfl rfl rfl ?_
          refine q_iconst rfl rfl ?_
          refine q_iadd rfl rfl (q_tn (z := 2) rfl ?_)
          refine q_ialdX (x := x2) rfl rfl rfl hx2 ?_
          refine q_nV2 rfl rfl (Or.inl rfl) rfl rfl rfl (by decide) (FW_46 S hW) ⟨rfl, rfl⟩ rfl ?_
          change PQ _ _ _ mm_X12_fixed 0 [.ref 46, .int x1, .int x2] [] _ _ 0 0 _
          refine q_aload_n rfl rfl rfl ?_
          refine q_iload_n rfl rfl rfl ?_
          refine q_iconst rfl rfl ?_
          refine q_iconst rfl rfl ?_
          refine q_nV3 rfl rfl (Or.inl rfl) rfl rfl rfl (by decide) (FW_46 S hW) ⟨rfl, rfl⟩ rfl ?_
          change PQ _ _ _ mm_X12_in 0 [.ref 46, .int x1, .int 0, .int 1] [] _ _ 0 0 _
          refine q_iload_n rfl rfl rfl ?_
          refine q_iload_n rfl rfl rfl ?_
          refine q_iclt rfl rfl (fun c26 => absurd c26 (i_lt_f (i_nlt c1) rfl)) (fun c26 => ?_)
          refine q_iload_n rfl rfl rfl ?_
          refine q_iload_n rfl rfl rfl ?_
          refine q_icgt rfl rfl (fun c27 => absurd c27 (i_gt_f (i_ltle (i_nle c7) (B := 1) rfl) rfl)) (fun c27 => ?_)
          refine q_iconst rfl rfl ?_
          refine q_goto rfl ?_
          refine q_iret rfl rfl rfl ?_
          refine ⟨_, rfl, ?_⟩
          refine q_ifeq rfl rfl (fun c28 => absurd c28 (by decide)) (fun c28 => ?_)
          refine q_aload_n rfl rfl rfl ?_
          refine q_iload_n rfl rfl rfl ?_
          refine q_iconst rfl rfl ?_
          refine q_iconst rfl rfl ?_
          refine q_nV3 rfl rfl (Or.inl rfl) rfl rfl rfl (by decide) (FW_46 S hW) ⟨rfl, rfl⟩ rfl ?_
          change PQ _ _ _ mm_X12_in 0 [.ref 46, .int x2, .int 0, .int 1] [] _ _ 0 0 _
          refine q_iload_n rfl rfl rfl ?_
          refine q_iload_n rfl rfl rfl ?_
          refine q_iclt rfl rfl (fun c29 => absurd c29 (i_lt_f c24 rfl)) (fun c29 => ?_)
          refine q_iload_n rfl rfl rfl ?_
          refine q_iload_n rfl rfl rfl ?_
          refine q_icgt rfl rfl (fun c30 => ?_) (fun c30 => absurd (i_gt_t c24 rfl) c30)
          refine q_iconst rfl rfl ?_
          refine q_iret rfl rfl rfl ?_
          refine ⟨_, rfl, ?_⟩
          refine q_ifne rfl rfl (fun c31 => ?_) (fun c31 => absurd (by decide) c31)
          refine q_iconst rfl rfl ?_
          refine q_iret rfl rfl trivial ?_
          refine ⟨_, rfl, ?_⟩
          refine q_iceq rfl rfl (fun c32 => ?_) (fun c32 => absurd (by decide) c32)
          refine q_icc4 (z := 6) rfl rfl rfl rfl rfl ?_
          refine q_goto rfl ?_
          refine q_iload rfl rfl rfl ?_
          refine q_aload_nF rfl rfl rfl ?_
          refine q_alenX (x := 6) rfl rfl rfl ?_
          refine q_bipush rfl rfl ?_
          refine q_isub rfl rfl (q_tn (z := 0) rfl ?_)
          refine q_icgt rfl rfl (fun c33 => ?_) (fun c33 => absurd (by decide) c33)
          refine q_iconst rfl rfl ?_
          refine q_iret rfl rfl rfl ?_
          exact hK _ _
        · refine q_iconst rfl rfl ?_
          refine q_goto rfl ?_
          refine q_iret rfl rfl rfl ?_
          refine ⟨_, rfl, ?_⟩
          refine q_ifne rfl rfl (fun c34 => absurd c34 (by decide)) (fun c34 => ?_)
          refine q_aload_n rfl rfl rfl ?_
          refine q_getf rfl rfl (by decide) (FW_0 S hW) rfl ?_
          refine q_getf rfl rfl (by decide) (FW_32 S hW) rfl ?_
          refine q_ifeq rfl rfl (fun c35 => ?_) (fun c35 => absurd (by decide) c35)
          refine q_bipush rfl rfl ?_
          refine q_iret rfl rfl trivial ?_
          refine ⟨_, rfl, ?_⟩
          refine q_aload_n rfl rfl rfl ?_
          refine q_aload_nF rfl rfl rfl ?_
          refine q_iload rfl rfl rfl ?_
          refine q_iconst rfl rfl ?_
          refine q_iadd rfl rfl (q_tn (z := 1) rfl ?_)
          refine q_ialdX (x := x1) rfl rfl rfl hx1 ?_
          refine q_aload_nF rfl rfl rfl ?_
          refine q_iload rfl rfl rfl ?_
          refine q_iconst rfl rfl ?_
          refine q_iadd rfl rfl (q_tn (z := 2) rfl ?_)
          refine q_ialdX (x := x2) rfl rfl rfl hx2 ?_
          refine q_nV2 rfl rfl (Or.inl rfl) rfl rfl rfl (by decide) (FW_46 S hW) ⟨rfl, rfl⟩ rfl ?_
          change PQ _ _ _ mm_X12_fixed 0 [.ref 46, .int x1, .int x2] [] _ _ 0 0 _
          refine q_aload_n rfl rfl rfl ?_
          refine q_iload_n rfl rfl rfl ?_
          refine q_iconst rfl rfl ?_
          refine q_iconst rfl rfl ?_
          refine q_nV3 rfl rfl (Or.inl rfl) rfl rfl rfl (by decide) (FW_46 S hW) ⟨rfl, rfl⟩ rfl ?_
          change PQ _ _ _ mm_X12_in 0 [.ref 46, .int x1, .int 0, .int 1] [] _ _ 0 0 _
          refine q_iload_n rfl rfl rfl ?_
          refine q_iload_n rfl rfl rfl ?_
          refine q_iclt rfl rfl (fun c36 => absurd c36 (i_lt_f (i_nlt c1) rfl)) (fun c36 => ?_)
          refine q_iload_n rfl rfl rfl ?_
          refine q_iload_n rfl rfl rfl ?_
          refine q_icgt rfl rfl (fun c37 => absurd c37 (i_gt_f (i_ltle (i_nle c7) (B := 1) rfl) rfl)) (fun c37 => ?_)
          refine q_iconst rfl rfl ?_
          refine q_goto rfl ?_
          refine q_iret rfl rfl rfl ?_
          refine ⟨_, rfl, ?_⟩
          refine q_ifeq rfl rfl (fun c38 => absurd c38 (by decide)) (fun c38 => ?_)
          refine q_aload_n rfl rfl rfl ?_
          refine q_iload_n rfl rfl rfl ?_
          refine q_iconst rfl rfl ?_
          refine q_iconst rfl rfl ?_
          refine q_nV3 rfl rfl (Or.inl rfl) rfl rfl rfl (by decide) (FW_46 S hW) ⟨rfl, rfl⟩ rfl ?_
          change PQ _ _ _ mm_X12_in 0 [.ref 46, .int x2, .int 0, .int 1] [] _ _ 0 0 _
          refine q_iload_n rfl rfl rfl ?_
          refine q_iload_n rfl rfl rfl ?_
          refine q_iclt rfl rfl (fun c39 => absurd c39 (i_lt_f (i_nlt c15) rfl)) (fun c39 => ?_)
          refine q_iload_n rfl rfl rfl ?_
          refine q_iload_n rfl rfl rfl ?_
          refine q_icgt rfl rfl (fun c40 => absurd c40 (i_gt_f (i_ltle (i_nle c24) (B := 1) rfl) rfl)) (fun c40 => ?_)
          refine q_iconst rfl rfl ?_
          refine q_goto rfl ?_
          refine q_iret rfl rfl rfl ?_
          refine ⟨_, rfl, ?_⟩
          refine q_ifne rfl rfl (fun c41 => absurd c41 (by decide)) (fun c41 => ?_)
          refine q_aload_n rfl rfl rfl ?_
          refine q_getf rfl rfl (by decide) (FW_46 S hW) rfl ?_
          refine q_ifne rfl rfl (fun c42 => ?_) (fun c42 => absurd (by decide) c42)
          refine q_bipush rfl rfl ?_
          refine q_goto rfl ?_
          refine q_iret rfl rfl trivial ?_
          refine ⟨_, rfl, ?_⟩
          refine q_iceq rfl rfl (fun c43 => ?_) (fun c43 => absurd (by decide) c43)
          refine q_icc4 (z := 6) rfl rfl rfl rfl rfl ?_
          refine q_goto rfl ?_
          refine q_iload rfl rfl rfl ?_
          refine q_aload_nF rfl rfl rfl ?_
          refine q_alenX (x := 6) rfl rfl rfl ?_
          refine q_bipush rfl rfl ?_
          refine q_isub rfl rfl (q_tn (z := 0) rfl ?_)
          refine q_icgt rfl rfl (fun c44 => ?_) (fun c44 => absurd (by decide) c44)
          refine q_iconst rfl rfl ?_
          refine q_iret rfl rfl rfl ?_
          exact hK _ _
set_option maxHeartbeats 40000000 in
set_option maxRecDepth 20000 in
theorem t_op25 {S : Nat → pm_E} (hW : FW S) {x1 x2 x3 x4 x5 : Int32} (hx1 : xs 1 = x1) (hx2 : xs 2 = x2) (hx3 : xs 3 = x3) (hx4 : xs 4 = x4) (hx5 : xs 5 = x5) (hK : ∀ S n, K (some (.int 1)) S n) : PQ (j_SL 6) (j_SV xs) j_EX mm_L_law 1077 [.float 5, .ref 0, .ref 46, .ref 81, .int 0, pm_un, pm_un, pm_un] [] S 82 82 190091 K := by
  refine q_aload_n rfl rfl rfl ?_
  refine q_aload_nF rfl rfl rfl ?_
  refine q_iload rfl rfl rfl ?_
  refine q_iconst rfl rfl ?_
  refine q_iadd rfl rfl (q_tn (z := 1) rfl ?_)
  refine q_ialdX (x := x1) rfl rfl rfl hx1 ?_
  refine q_aload_nF rfl rfl rfl ?_
  refine q_iload rfl rfl rfl ?_
  refine q_iconst rfl rfl ?_
  refine q_iadd rfl rfl (q_tn (z := 2) rfl ?_)
  refine q_ialdX (x := x2) rfl rfl rfl hx2 ?_
  refine q_aload_n rfl rfl rfl ?_
  rcases i_tri x1 with e1 | e1 | ⟨e1, e2⟩
  · refine q_elem (by decide) (FW_0 S hW) rfl (FW_43 S hW) (fun _ _ => rfl) (Or.inl ⟨Or.inl e1, rfl⟩) (by decide) (by decide) (fun g => ?_)
    refine q_ist5 rfl rfl rfl rfl ?_
    refine q_aload_n rfl rfl rfl ?_
    refine q_aload_nF rfl rfl rfl ?_
    refine q_iload rfl rfl rfl ?_
    refine q_iconst rfl rfl ?_
    refine q_iadd rfl rfl (q_tn (z := 1) rfl ?_)
    refine q_ialdX (x := x1) rfl rfl rfl hx1 ?_
    refine q_aload_nF rfl rfl rfl ?_
    refine q_iload rfl rfl rfl ?_
    refine q_iconst rfl rfl ?_
    refine q_iadd rfl rfl (q_tn (z := 2) rfl ?_)
    refine q_ialdX (x := x2) rfl rfl rfl hx2 ?_
    refine q_nV2 rfl rfl (Or.inl rfl) rfl rfl rfl (by decide) (FW_46 S hW) ⟨rfl, rfl⟩ rfl ?_
    change PQ _ _ _ mm_X12_element 0 [.ref 46, .int x1, .int x2] [] _ _ 0 0 _
    refine q_aload_n rfl rfl rfl ?_
    refine q_aload_n rfl rfl rfl ?_
    refine q_iload_n rfl rfl rfl ?_
    refine q_nV1 rfl rfl (Or.inl rfl) rfl rfl rfl (by decide) (FW_46 S hW) ⟨rfl, rfl⟩ rfl ?_
    change PQ _ _ _ mm_X12_isShelf 0 [.ref 46, .int x1] [] _ _ 0 0 _
    refine q_aload_n rfl rfl rfl ?_
    refine q_iload_n rfl rfl rfl ?_
    refine q_iconst rfl rfl ?_
    refine q_bipush rfl rfl ?_
    refine q_nV3 rfl rfl (Or.inl rfl) rfl rfl rfl (by decide) (FW_46 S hW) ⟨rfl, rfl⟩ rfl ?_
    change PQ _ _ _ mm_X12_in 0 [.ref 46, .int x1, .int 0, .int 7] [] _ _ 0 0 _
    refine q_iload_n rfl rfl rfl ?_
    refine q_iload_n rfl rfl rfl ?_
    refine q_iclt rfl rfl (fun c1 => ?_) (fun c1 => absurd (i_lt_t (i_ltle e1 (B := (-1)) rfl) rfl) c1)
    refine q_iconst rfl rfl ?_
    refine q_iret rfl rfl rfl ?_
    refine ⟨_, rfl, ?_⟩
    refine q_iret rfl rfl rfl ?_
    refine ⟨_, rfl, ?_⟩
    refine q_ifne rfl rfl (fun c2 => ?_) (fun c2 => absurd (by decide) c2)
    refine q_iconst rfl rfl ?_
    refine q_goto rfl ?_
    refine q_putf rfl rfl (by decide) (FW_46 S hW) (by decide) rfl trivial ?_
    refine q_aload_n rfl rfl rfl ?_
    refine q_getf rfl rfl (by decide) rfl rfl ?_
    refine q_ifle rfl rfl (fun c3 => absurd c3 (by decide)) (fun c3 => ?_)
    refine q_lconst rfl rfl ?_
    refine q_goto rfl ?_
    refine q_lret rfl rfl trivial ?_
    refine ⟨_, rfl, ?_⟩
    refine q_lst6 rfl rfl rfl rfl ?_
    refine q_aload_n rfl rfl rfl ?_
    refine q_nV0 rfl rfl (Or.inl rfl) rfl rfl rfl (by decide) rfl ⟨rfl, rfl⟩ rfl ?_
    change PQ _ _ _ mm_X12_thrown 0 [.ref 46] [] _ _ 0 0 _
    refine q_aload_n rfl rfl rfl ?_
    refine q_getf rfl rfl (by decide) rfl rfl ?_
    refine q_iret rfl rfl trivial ?_
    refine ⟨_, rfl, ?_⟩
    refine q_iload rfl rfl rfl ?_
    refine q_iceq rfl rfl (fun c4 => ?_) (fun c4 => absurd (by decide) c4)
    refine q_iload rfl rfl rfl ?_
    refine q_ifne rfl rfl (fun c5 => absurd c5 (by decide)) (fun c5 => ?_)
    refine q_goto rfl ?_
    refine q_icc4 (z := 6) rfl rfl rfl rfl rfl ?_
    refine q_goto rfl ?_
    refine q_iload rfl rfl rfl ?_
    refine q_aload_nF rfl rfl rfl ?_
    refine q_alenX (x := 6) rfl rfl rfl ?_
    refine q_bipush rfl rfl ?_
    refine q_isub rfl rfl (q_tn (z := 0) rfl ?_)
    refine q_icgt rfl rfl (fun c6 => ?_) (fun c6 => absurd (by decide) c6)
    refine q_iconst rfl rfl ?_
    refine q_iret rfl rfl rfl ?_
    exact hK _ _
  · refine q_elem (by decide) (FW_0 S hW) rfl (FW_43 S hW) (fun _ _ => rfl) (Or.inl ⟨Or.inr e1, rfl⟩) (by decide) (by decide) (fun g => ?_)
    refine q_ist5 rfl rfl rfl rfl ?_
    refine q_aload_n rfl rfl rfl ?_
    refine q_aload_nF rfl rfl rfl ?_
    refine q_iload rfl rfl rfl ?_
    refine q_iconst rfl rfl ?_
    refine q_iadd rfl rfl (q_tn (z := 1) rfl ?_)
    refine q_ialdX (x := x1) rfl rfl rfl hx1 ?_
    refine q_aload_nF rfl rfl rfl ?_
    refine q_iload rfl rfl rfl ?_
    refine q_iconst rfl rfl ?_
    refine q_iadd rfl rfl (q_tn (z := 2) rfl ?_)
    refine q_ialdX (x := x2) rfl rfl rfl hx2 ?_
    refine q_nV2 rfl rfl (Or.inl rfl) rfl rfl rfl (by decide) (FW_46 S hW) ⟨rfl, rfl⟩ rfl ?_
    change PQ _ _ _ mm_X12_element 0 [.ref 46, .int x1, .int x2] [] _ _ 0 0 _
    refine q_aload_n rfl rfl rfl ?_
    refine q_aload_n rfl rfl rfl ?_
    refine q_iload_n rfl rfl rfl ?_
    refine q_nV1 rfl rfl (Or.inl rfl) rfl rfl rfl (by decide) (FW_46 S hW) ⟨rfl, rfl⟩ rfl ?_
    change PQ _ _ _ mm_X12_isShelf 0 [.ref 46, .int x1] [] _ _ 0 0 _
    refine q_aload_n rfl rfl rfl ?_
    refine q_iload_n rfl rfl rfl ?_
    refine q_iconst rfl rfl ?_
    refine q_bipush rfl rfl ?_
    refine q_nV3 rfl rfl (Or.inl rfl) rfl rfl rfl (by decide) (FW_46 S hW) ⟨rfl, rfl⟩ rfl ?_
    change PQ _ _ _ mm_X12_in 0 [.ref 46, .int x1, .int 0, .int 7] [] _ _ 0 0 _
    refine q_iload_n rfl rfl rfl ?_
    refine q_iload_n rfl rfl rfl ?_
    refine q_iclt rfl rfl (fun c7 => absurd c7 (i_lt_f e1 rfl)) (fun c7 => ?_)
    refine q_iload_n rfl rfl rfl ?_
    refine q_iload_n rfl rfl rfl ?_
    refine q_icgt rfl rfl (fun c8 => ?_) (fun c8 => absurd (i_gt_t e1 rfl) c8)
    refine q_iconst rfl rfl ?_
    refine q_iret rfl rfl rfl ?_
    refine ⟨_, rfl, ?_⟩
    refine q_iret rfl rfl rfl ?_
    refine ⟨_, rfl, ?_⟩
    refine q_ifne rfl rfl (fun c9 => ?_) (fun c9 => absurd (by decide) c9)
    refine q_iconst rfl rfl ?_
    refine q_goto rfl ?_
    refine q_putf rfl rfl (by decide) (FW_46 S hW) (by decide) rfl trivial ?_
    refine q_aload_n rfl rfl rfl ?_
    refine q_getf rfl rfl (by decide) rfl rfl ?_
    refine q_ifle rfl rfl (fun c10 => absurd c10 (by decide)) (fun c10 => ?_)
    refine q_lconst rfl rfl ?_
    refine q_goto rfl ?_
    refine q_lret rfl rfl trivial ?_
    refine ⟨_, rfl, ?_⟩
    refine q_lst6 rfl rfl rfl rfl ?_
    refine q_aload_n rfl rfl rfl ?_
    refine q_nV0 rfl rfl (Or.inl rfl) rfl rfl rfl (by decide) rfl ⟨rfl, rfl⟩ rfl ?_
    change PQ _ _ _ mm_X12_thrown 0 [.ref 46] [] _ _ 0 0 _
    refine q_aload_n rfl rfl rfl ?_
    refine q_getf rfl rfl (by decide) rfl rfl ?_
    refine q_iret rfl rfl trivial ?_
    refine ⟨_, rfl, ?_⟩
    refine q_iload rfl rfl rfl ?_
    refine q_iceq rfl rfl (fun c11 => ?_) (fun c11 => absurd (by decide) c11)
    refine q_iload rfl rfl rfl ?_
    refine q_ifne rfl rfl (fun c12 => absurd c12 (by decide)) (fun c12 => ?_)
    refine q_goto rfl ?_
    refine q_icc4 (z := 6) rfl rfl rfl rfl rfl ?_
    refine q_goto rfl ?_
    refine q_iload rfl rfl rfl ?_
    refine q_aload_nF rfl rfl rfl ?_
    refine q_alenX (x := 6) rfl rfl rfl ?_
    refine q_bipush rfl rfl ?_
    refine q_isub rfl rfl (q_tn (z := 0) rfl ?_)
    refine q_icgt rfl rfl (fun c13 => ?_) (fun c13 => absurd (by decide) c13)
    refine q_iconst rfl rfl ?_
    refine q_iret rfl rfl rfl ?_
    exact hK _ _
  · refine q_elem (by decide) (FW_0 S hW) rfl (FW_43 S hW) (fun _ _ => rfl) (Or.inr ⟨⟨e1, e2⟩, rfl⟩) (by decide) (by decide) (fun g => ?_)
    refine q_ist5 rfl rfl rfl rfl ?_
    refine q_aload_n rfl rfl rfl ?_
    refine q_aload_nF rfl rfl rfl ?_
    refine q_iload rfl rfl rfl ?_
    refine q_iconst rfl rfl ?_
    refine q_iadd rfl rfl (q_tn (z := 1) rfl ?_)
    refine q_ialdX (x := x1) rfl rfl rfl hx1 ?_
    refine q_aload_nF rfl rfl rfl ?_
    refine q_iload rfl rfl rfl ?_
    refine q_iconst rfl rfl ?_
    refine q_iadd rfl rfl (q_tn (z := 2) rfl ?_)
    refine q_ialdX (x := x2) rfl rfl rfl hx2 ?_
    refine q_nV2 rfl rfl (Or.inl rfl) rfl rfl rfl (by decide) (FW_46 S hW) ⟨rfl, rfl⟩ rfl ?_
    change PQ _ _ _ mm_X12_element 0 [.ref 46, .int x1, .int x2] [] _ _ 0 0 _
    refine q_aload_n rfl rfl rfl ?_
    refine q_aload_n rfl rfl rfl ?_
    refine q_iload_n rfl rfl rfl ?_
    refine q_nV1 rfl rfl (Or.inl rfl) rfl rfl rfl (by decide) (FW_46 S hW) ⟨rfl, rfl⟩ rfl ?_
    change PQ _ _ _ mm_X12_isShelf 0 [.ref 46, .int x1] [] _ _ 0 0 _
    refine q_aload_n rfl rfl rfl ?_
    refine q_iload_n rfl rfl rfl ?_
    refine q_iconst rfl rfl ?_
    refine q_bipush rfl rfl ?_
    refine q_nV3 rfl rfl (Or.inl rfl) rfl rfl rfl (by decide) (FW_46 S hW) ⟨rfl, rfl⟩ rfl ?_
    change PQ _ _ _ mm_X12_in 0 [.ref 46, .int x1, .int 0, .int 7] [] _ _ 0 0 _
    refine q_iload_n rfl rfl rfl ?_
    refine q_iload_n rfl rfl rfl ?_
    refine q_iclt rfl rfl (fun c14 => absurd c14 (i_lt_f e1 rfl)) (fun c14 => ?_)
    refine q_iload_n rfl rfl rfl ?_
    refine q_iload_n rfl rfl rfl ?_
    refine q_icgt rfl rfl (fun c15 => absurd c15 (i_gt_f e2 rfl)) (fun c15 => ?_)
    refine q_iconst rfl rfl ?_
    refine q_goto rfl ?_
    refine q_iret rfl rfl rfl ?_
    refine ⟨_, rfl, ?_⟩
    refine q_iret rfl rfl rfl ?_
    refine ⟨_, rfl, ?_⟩
    refine q_ifne rfl rfl (fun c16 => absurd c16 (by decide)) (fun c16 => ?_)
    refine q_aload_n rfl rfl rfl ?_
    refine q_getf rfl rfl (by decide) (FW_46 S hW) rfl ?_
    refine q_iload_n rfl rfl rfl ?_
    refine q_iald rfl rfl (by decide) (FW_75 S hW) (i_in e1 e2 rfl) (q_tn (z := 0) rfl ?_)
    refine q_iconst rfl rfl ?_
    refine q_iclt rfl rfl (fun c17 => ?_) (fun c17 => absurd (by decide) c17)
    refine q_iconst rfl rfl ?_
    refine q_goto rfl ?_
    refine q_putf rfl rfl (by decide) (FW_46 S hW) (by decide) rfl trivial ?_
    refine q_aload_n rfl rfl rfl ?_
    refine q_getf rfl rfl (by decide) rfl rfl ?_
    refine q_ifle rfl rfl (fun c18 => absurd c18 (by decide)) (fun c18 => ?_)
    refine q_lconst rfl rfl ?_
    refine q_goto rfl ?_
    refine q_lret rfl rfl trivial ?_
    refine ⟨_, rfl, ?_⟩
    refine q_lst6 rfl rfl rfl rfl ?_
    refine q_aload_n rfl rfl rfl ?_
    refine q_nV0 rfl rfl (Or.inl rfl) rfl rfl rfl (by decide) rfl ⟨rfl, rfl⟩ rfl ?_
    change PQ _ _ _ mm_X12_thrown 0 [.ref 46] [] _ _ 0 0 _
    refine q_aload_n rfl rfl rfl ?_
    refine q_getf rfl rfl (by decide) rfl rfl ?_
    refine q_iret rfl rfl trivial ?_
    refine ⟨_, rfl, ?_⟩
    refine q_iload rfl rfl rfl ?_
    refine q_iceq rfl rfl (fun c19 => ?_) (fun c19 => absurd (by decide) c19)
    refine q_iload rfl rfl rfl ?_
    refine q_ifne rfl rfl (fun c20 => absurd c20 (by decide)) (fun c20 => ?_)
    refine q_goto rfl ?_
    refine q_icc4 (z := 6) rfl rfl rfl rfl rfl ?_
    refine q_goto rfl ?_
    refine q_iload rfl rfl rfl ?_
    refine q_aload_nF rfl rfl rfl ?_
    refine q_alenX (x := 6) rfl rfl rfl ?_
    refine q_bipush rfl rfl ?_
    refine q_isub rfl rfl (q_tn (z := 0) rfl ?_)
    refine q_icgt rfl rfl (fun c21 => ?_) (fun c21 => absurd (by decide) c21)
    refine q_iconst rfl rfl ?_
    refine q_iret rfl rfl rfl ?_
    exact hK _ _
set_option maxHeartbeats 40000000 in
set_option maxRecDepth 20000 in
theorem t_op26 {S : Nat → pm_E} (hW : FW S) {x1 x2 x3 x4 x5 : Int32} (hx1 : xs 1 = x1) (hx2 : xs 2 = x2) (hx3 : xs 3 = x3) (hx4 : xs 4 = x4) (hx5 : xs 5 = x5) (hK : ∀ S n, K (some (.int 1)) S n) : PQ (j_SL 6) (j_SV xs) EX mm_L_law 1144 [.float 5, .ref 0, .ref 46, .ref 81, .int 0, pm_un, pm_un, pm_un] [] S 82 82 190091 K := by
  refine q_aload_n rfl rfl rfl ?_
  refine q_aload_nF rfl rfl rfl ?_
  refine q_iload rfl rfl rfl ?_
  refine q_iconst rfl rfl ?_
  refine q_iadd rfl rfl (q_tn (z := 1) rfl ?_)
  refine q_ialdX (x := x1) rfl rfl rfl hx1 ?_
  refine q_aload_nF rfl rfl rfl ?_
  refine q_iload rfl rfl rfl ?_
  refine q_iconst rfl rfl ?_
  refine q_iadd rfl rfl (q_tn (z := 2) rfl ?_)
  refine q_ialdX (x := x2) rfl rfl rfl hx2 ?_
  refine q_aload_nF rfl rfl rfl ?_
  refine q_iload rfl rfl rfl ?_
  refine q_iconst rfl rfl ?_
  refine q_iadd rfl rfl (q_tn (z := 3) rfl ?_)
  refine q_ialdX (x := x3) rfl rfl rfl hx3 ?_
  refine q_aload_nF rfl rfl rfl ?_
  refine q_iload rfl rfl rfl ?_
  refine q_iconst rfl rfl ?_
  refine q_iadd rfl rfl (q_tn (z := 4) rfl ?_)
  refine q_ialdX (x := x4) rfl rfl rfl hx4 ?_
  refine q_aload_nF rfl rfl rfl ?_
  refine q_iload rfl rfl rfl ?_
  refine q_iconst rfl rfl ?_
  refine q_iadd rfl rfl (q_tn (z := 5) rfl ?_)
  refine q_ialdX (x := x5) rfl rfl rfl hx5 ?_
  refine q_nV5 rfl rfl (Or.inl rfl) rfl rfl rfl (by decide) (FW_0 S hW) ⟨rfl, rfl⟩ rfl ?_
  change PQ _ _ _ mm_X11_copy 0 [.ref 0, .int x1, .int x2, .int x3, .int x4, .int x5, pm_un, pm_un, pm_un, pm_un] [] _ _ 0 0 _
  refine q_iload_n rfl rfl rfl ?_
  refine q_bipush rfl rfl ?_
  refine q_nS2 rfl rfl (Or.inl rfl) rfl rfl ⟨rfl, rfl⟩ rfl ?_
  change PQ _ _ _ mm_X11_within 0 [.int x1, .int 8] [] _ _ 0 0 _
  refine q_iload_n rfl rfl rfl ?_
  refine q_iflt rfl rfl (fun c1 => ?_) (fun c1 => ?_)
  · refine q_iconst rfl rfl ?_
    refine q_iret rfl rfl rfl ?_
    refine ⟨_, rfl, ?_⟩
    refine q_ifeq rfl rfl (fun c2 => ?_) (fun c2 => absurd (by decide) c2)
    refine q_iconst rfl rfl ?_
    refine q_iret rfl rfl trivial ?_
    refine ⟨_, rfl, ?_⟩
    refine q_aload_n rfl rfl rfl ?_
    refine q_aload_nF rfl rfl rfl ?_
    refine q_iload rfl rfl rfl ?_
    refine q_iconst rfl rfl ?_
    refine q_iadd rfl rfl (q_tn (z := 1) rfl ?_)
    refine q_ialdX (x := x1) rfl rfl rfl hx1 ?_
    refine q_aload_nF rfl rfl rfl ?_
    refine q_iload rfl rfl rfl ?_
    refine q_iconst rfl rfl ?_
    refine q_iadd rfl rfl (q_tn (z := 2) rfl ?_)
    refine q_ialdX (x := x2) rfl rfl rfl hx2 ?_
    refine q_aload_nF rfl rfl rfl ?_
    refine q_iload rfl rfl rfl ?_
    refine q_iconst rfl rfl ?_
    refine q_iadd rfl rfl (q_tn (z := 3) rfl ?_)
    refine q_ialdX (x := x3) rfl rfl rfl hx3 ?_
    refine q_aload_nF rfl rfl rfl ?_
    refine q_iload rfl rfl rfl ?_
    refine q_iconst rfl rfl ?_
    refine q_iadd rfl rfl (q_tn (z := 4) rfl ?_)
    refine q_ialdX (x := x4) rfl rfl rfl hx4 ?_
    refine q_aload_nF rfl rfl rfl ?_
    refine q_iload rfl rfl rfl ?_
    refine q_iconst rfl rfl ?_
    refine q_iadd rfl rfl (q_tn (z := 5) rfl ?_)
    refine q_ialdX (x := x5) rfl rfl rfl hx5 ?_
    refine q_nV5 rfl rfl (Or.inl rfl) rfl rfl rfl (by decide) (FW_46 S hW) ⟨rfl, rfl⟩ rfl ?_
    change PQ _ _ _ mm_X12_copy 0 [.ref 46, .int x1, .int x2, .int x3, .int x4, .int x5, pm_un] [] _ _ 0 0 _
    refine q_aload_n rfl rfl rfl ?_
    refine q_iload_n rfl rfl rfl ?_
    refine q_nV1 rfl rfl (Or.inl rfl) rfl rfl rfl (by decide) (FW_46 S hW) ⟨rfl, rfl⟩ rfl ?_
    change PQ _ _ _ mm_X12_isShelf 0 [.ref 46, .int x1] [] _ _ 0 0 _
    refine q_aload_n rfl rfl rfl ?_
    refine q_iload_n rfl rfl rfl ?_
    refine q_iconst rfl rfl ?_
    refine q_bipush rfl rfl ?_
    refine q_nV3 rfl rfl (Or.inl rfl) rfl rfl rfl (by decide) (FW_46 S hW) ⟨rfl, rfl⟩ rfl ?_
    change PQ _ _ _ mm_X12_in 0 [.ref 46, .int x1, .int 0, .int 7] [] _ _ 0 0 _
    refine q_iload_n rfl rfl rfl ?_
    refine q_iload_n rfl rfl rfl ?_
    refine q_iclt rfl rfl (fun c3 => ?_) (fun c3 => absurd (i_lt_t (i_ltle c1 (B := (-1)) rfl) rfl) c3)
    refine q_iconst rfl rfl ?_
    refine q_iret rfl rfl rfl ?_
    refine ⟨_, rfl, ?_⟩
    refine q_iret rfl rfl rfl ?_
    refine ⟨_, rfl, ?_⟩
    refine q_ifeq rfl rfl (fun c4 => ?_) (fun c4 => absurd (by decide) c4)
    refine q_iconst rfl rfl ?_
    refine q_iret rfl rfl trivial ?_
    refine ⟨_, rfl, ?_⟩
    refine q_iceq rfl rfl (fun c5 => ?_) (fun c5 => absurd (by decide) c5)
    refine q_icc4 (z := 6) rfl rfl rfl rfl rfl ?_
    refine q_goto rfl ?_
    refine q_iload rfl rfl rfl ?_
    refine q_aload_nF rfl rfl rfl ?_
    refine q_alenX (x := 6) rfl rfl rfl ?_
    refine q_bipush rfl rfl ?_
    refine q_isub rfl rfl (q_tn (z := 0) rfl ?_)
    refine q_icgt rfl rfl (fun c6 => ?_) (fun c6 => absurd (by decide) c6)
    refine q_iconst rfl rfl ?_
    refine q_iret rfl rfl rfl ?_
    exact hK _ _
  · refine q_iload_n rfl rfl rfl ?_
    refine q_iload_n rfl rfl rfl ?_
    refine q_icge rfl rfl (fun c7 => ?_) (fun c7 => ?_)
    · refine q_iconst rfl rfl ?_
      refine q_iret rfl rfl rfl ?_
      refine ⟨_, rfl, ?_⟩
      refine q_ifeq rfl rfl (fun c8 => ?_) (fun c8 => absurd (by decide) c8)
      refine q_iconst rfl rfl ?_
      refine q_iret rfl rfl trivial ?_
      refine ⟨_, rfl, ?_⟩
      refine q_aload_n rfl rfl rfl ?_
      refine q_aload_nF rfl rfl rfl ?_
      refine q_iload rfl rfl rfl ?_
      refine q_iconst rfl rfl ?_
      refine q_iadd rfl rfl (q_tn (z := 1) rfl ?_)
      refine q_ialdX (x := x1) rfl rfl rfl hx1 ?_
      refine q_aload_nF rfl rfl rfl ?_
      refine q_iload rfl rfl rfl ?_
      refine q_iconst rfl rfl ?_
      refine q_iadd rfl rfl (q_tn (z := 2) rfl ?_)
      refine q_ialdX (x := x2) rfl rfl rfl hx2 ?_
      refine q_aload_nF rfl rfl rfl ?_
      refine q_iload rfl rfl rfl ?_
      refine q_iconst rfl rfl ?_
      refine q_iadd rfl rfl (q_tn (z := 3) rfl ?_)
      refine q_ialdX (x := x3) rfl rfl rfl hx3 ?_
      refine q_aload_nF rfl rfl rfl ?_
      refine q_iload rfl rfl rfl ?_
      refine q_iconst rfl rfl ?_
      refine q_iadd rfl rfl (q_tn (z := 4) rfl ?_)
      refine q_ialdX (x := x4) rfl rfl rfl hx4 ?_
      refine q_aload_nF rfl rfl rfl ?_
      refine q_iload rfl rfl rfl ?_
      refine q_iconst rfl rfl ?_
      refine q_iadd rfl rfl (q_tn (z := 5) rfl ?_)
      refine q_ialdX (x := x5) rfl rfl rfl hx5 ?_
      refine q_nV5 rfl rfl (Or.inl rfl) rfl rfl rfl (by decide) (FW_46 S hW) ⟨rfl, rfl⟩ rfl ?_
      change PQ _ _ _ mm_X12_copy 0 [.ref 46, .int x1, .int x2, .int x3, .int x4, .int x5, pm_un] [] _ _ 0 0 _
      refine q_aload_n rfl rfl rfl ?_
      refine q_iload_n rfl rfl rfl ?_
      refine q_nV1 rfl rfl (Or.inl rfl) rfl rfl rfl (by decide) (FW_46 S hW) ⟨rfl, rfl⟩ rfl ?_
      change PQ _ _ _ mm_X12_isShelf 0 [.ref 46, .int x1] [] _ _ 0 0 _
      refine q_aload_n rfl rfl rfl ?_
      refine q_iload_n rfl rfl rfl ?_
      refine q_iconst rfl rfl ?_
      refine q_bipush rfl rfl ?_
      refine q_nV3 rfl rfl (Or.inl rfl) rfl rfl rfl (by decide) (FW_46 S hW) ⟨rfl, rfl⟩ rfl ?_
      change PQ _ _ _ mm_X12_in 0 [.ref 46, .int x1, .int 0, .int 7] [] _ _ 0 0 _
      refine q_iload_n rfl rfl rfl ?_
      refine q_iload_n rfl rfl rfl ?_
      refine q_iclt rfl rfl (fun c9 => absurd c9 (i_lt_f c7 rfl)) (fun c9 => ?_)
      refine q_iload_n rfl rfl rfl ?_
      refine q_iload_n rfl rfl rfl ?_
      refine q_icgt rfl rfl (fun c10 => ?_) (fun c10 => absurd (i_gt_t c7 rfl) c10)
      refine q_iconst rfl rfl ?_
      refine q_iret rfl rfl rfl ?_
      refine ⟨_, rfl, ?_⟩
      refine q_iret rfl rfl rfl ?_
      refine ⟨_, rfl, ?_⟩
      refine q_ifeq rfl rfl (fun c11 => ?_) (fun c11 => absurd (by decide) c11)
      refine q_iconst rfl rfl ?_
      refine q_iret rfl rfl trivial ?_
      refine ⟨_, rfl, ?_⟩
      refine q_iceq rfl rfl (fun c12 => ?_) (fun c12 => absurd (by decide) c12)
      refine q_icc4 (z := 6) rfl rfl rfl rfl rfl ?_
      refine q_goto rfl ?_
      refine q_iload rfl rfl rfl ?_
      refine q_aload_nF rfl rfl rfl ?_
      refine q_alenX (x := 6) rfl rfl rfl ?_
      refine q_bipush rfl rfl ?_
      refine q_isub rfl rfl (q_tn (z := 0) rfl ?_)
      refine q_icgt rfl rfl (fun c13 => ?_) (fun c13 => absurd (by decide) c13)
      refine q_iconst rfl rfl ?_
      refine q_iret rfl rfl rfl ?_
      exact hK _ _
    · refine q_iconst rfl rfl ?_
      refine q_goto rfl ?_
      refine q_iret rfl rfl rfl ?_
      refine ⟨_, rfl, ?_⟩
      refine q_ifeq rfl rfl (fun c14 => absurd c14 (by decide)) (fun c14 => ?_)
      refine q_iload_n rfl rfl rfl ?_
      refine q_bipush rfl rfl ?_
      refine q_nS2 rfl rfl (Or.inl rfl) rfl rfl ⟨rfl, rfl⟩ rfl ?_
      change PQ _ _ _ mm_X11_within 0 [.int x3, .int 8] [] _ _ 0 0 _
      refine q_iload_n rfl rfl rfl ?_
      refine q_iflt rfl rfl (fun c15 => ?_) (fun c15 => ?_)
      · refine q_iconst rfl rfl ?_
        refine q_iret rfl rfl rfl ?_
        refine ⟨_, rfl, ?_⟩
        refine q_ifne rfl rfl (fun c16 => ?_) (fun c16 => absurd (by decide) c16)
        refine q_iconst rfl rfl ?_
        refine q_iret rfl rfl trivial ?_
        refine ⟨_, rfl, ?_⟩
        refine q_aload_n rfl rfl rfl ?_
        refine q_aload_nF rfl rfl rfl ?_
        refine q_iload rfl rfl rfl ?_
        refine q_iconst rfl rfl ?_
        refine q_iadd rfl rfl (q_tn (z := 1) rfl ?_)
        refine q_ialdX (x := x1) rfl rfl rfl hx1 ?_
        refine q_aload_nF rfl rfl rfl ?_
        refine q_iload rfl rfl rfl ?_
        refine q_iconst rfl rfl ?_
        refine q_iadd rfl rfl (q_tn (z := 2) rfl ?_)
        refine q_ialdX (x := x2) rfl rfl rfl hx2 ?_
        refine q_aload_nF rfl rfl rfl ?_
        refine q_iload rfl rfl rfl ?_
        refine q_iconst rfl rfl ?_
        refine q_iadd rfl rfl (q_tn (z := 3) rfl ?_)
        refine q_ialdX (x := x3) rfl rfl rfl hx3 ?_
        refine q_aload_nF rfl rfl rfl ?_
        refine q_iload rfl rfl rfl ?_
        refine q_iconst rfl rfl ?_
        refine q_iadd rfl rfl (q_tn (z := 4) rfl ?_)
        refine q_ialdX (x := x4) rfl rfl rfl hx4 ?_
        refine q_aload_nF rfl rfl rfl ?_
        refine q_iload rfl rfl rfl ?_
        refine q_iconst rfl rfl ?_
        refine q_iadd rfl rfl (q_tn (z := 5) rfl ?_)
        refine q_ialdX (x := x5) rfl rfl rfl hx5 ?_
        refine q_nV5 rfl rfl (Or.inl rfl) rfl rfl rfl (by decide) (FW_46 S hW) ⟨rfl, rfl⟩ rfl ?_
        change PQ _ _ _ mm_X12_copy 0 [.ref 46, .int x1, .int x2, .int x3, .int x4, .int x5, pm_un] [] _ _ 0 0 _
        refine q_aload_n rfl rfl rfl ?_
        refine q_iload_n rfl rfl rfl ?_
        refine q_nV1 rfl rfl (Or.inl rfl) rfl rfl rfl (by decide) (FW_46 S hW) ⟨rfl, rfl⟩ rfl ?_
        change PQ _ _ _ mm_X12_isShelf 0 [.ref 46, .int x1] [] _ _ 0 0 _
        refine q_aload_n rfl rfl rfl ?_
        refine q_iload_n rfl rfl rfl ?_
        refine q_iconst rfl rfl ?_
        refine q_bipush rfl rfl ?_
        refine q_nV3 rfl rfl (Or.inl rfl) rfl rfl rfl (by decide) (FW_46 S hW) ⟨rfl, rfl⟩ rfl ?_
        change PQ _ _ _ mm_X12_in 0 [.ref 46, .int x1, .int 0, .int 7] [] _ _ 0 0 _
        refine q_iload_n rfl rfl rfl ?_
        refine q_iload_n rfl rfl rfl ?_
        refine q_iclt rfl rfl (fun c17 => absurd c17 (i_lt_f (i_nlt c1) rfl)) (fun c17 => ?_)
        refine q_iload_n rfl rfl rfl ?_
        refine q_iload_n rfl rfl rfl ?_
        refine q_icgt rfl rfl (fun c18 => absurd c18 (i_gt_f (i_ltle (i_nle c7) (B := 7) rfl) rfl)) (fun c18 => ?_)
        refine q_iconst rfl rfl ?_
        refine q_goto rfl ?_
        refine q_iret rfl rfl rfl ?_
        refine ⟨_, rfl, ?_⟩
        refine q_iret rfl rfl rfl ?_
        refine ⟨_, rfl, ?_⟩
        refine q_ifeq rfl rfl (fun c19 => absurd c19 (by decide)) (fun c19 => ?_)
        refine q_aload_n rfl rfl rfl ?_
        refine q_iload_n rfl rfl rfl ?_
        refine q_nV1 rfl rfl (Or.inl rfl) rfl rfl rfl (by decide) (FW_46 S hW) ⟨rfl, rfl⟩ rfl ?_
        change PQ _ _ _ mm_X12_isShelf 0 [.ref 46, .int x3] [] _ _ 0 0 _
        refine q_aload_n rfl rfl rfl ?_
        refine q_iload_n rfl rfl rfl ?_
        refine q_iconst rfl rfl ?_
        refine q_bipush rfl rfl ?_
        refine q_nV3 rfl rfl (Or.inl rfl) rfl rfl rfl (by decide) (FW_46 S hW) ⟨rfl, rfl⟩ rfl ?_
        change PQ _ _ _ mm_X12_in 0 [.ref 46, .int x3, .int 0, .int 7] [] _ _ 0 0 _
        refine q_iload_n rfl rfl rfl ?_
        refine q_iload_n rfl rfl rfl ?_
        refine q_iclt rfl rfl (fun c20 => ?_) (fun c20 => absurd (i_lt_t (i_ltle c15 (B := (-1)) rfl) rfl) c20)
        refine q_iconst rfl rfl ?_
        refine q_iret rfl rfl rfl ?_
        refine ⟨_, rfl, ?_⟩
        refine q_iret rfl rfl rfl ?_
        refine ⟨_, rfl, ?_⟩
        refine q_ifne rfl rfl (fun c21 => ?_) (fun c21 => absurd (by decide) c21)
        refine q_iconst rfl rfl ?_
        refine q_iret rfl rfl trivial ?_
        refine ⟨_, rfl, ?_⟩
        refine q_iceq rfl rfl (fun c22 => ?_) (fun c22 => absurd (by decide) c22)
        refine q_icc4 (z := 6) rfl rfl rfl rfl rfl ?_
        refine q_goto rfl ?_
        refine q_iload rfl rfl rfl ?_
        refine q_aload_nF rfl rfl rfl ?_
        refine q_alenX (x := 6) rfl rfl rfl ?_
        refine q_bipush rfl rfl ?_
        refine q_isub rfl rfl (q_tn (z := 0) rfl ?_)
        refine q_icgt rfl rfl (fun c23 => ?_) (fun c23 => absurd (by decide) c23)
        refine q_iconst rfl rfl ?_
        refine q_iret rfl rfl rfl ?_
        exact hK _ _
      · refine q_iload_n rfl rfl rfl ?_
        refine q_iload_n rfl rfl rfl ?_
        refine q_icge rfl rfl (fun c24 => ?_) (fun c24 => ?_)
        · refine q_iconst rfl rfl ?_
          refine q_iret rfl rfl rfl ?_
          refine ⟨_, rfl, ?_⟩
          refine q_ifne rfl rfl (fun c25 => ?_) (fun c25 => absurd (by decide) c25)
          refine q_iconst rfl rfl ?_
          refine q_iret rfl rfl trivial ?_
          refine ⟨_, rfl, ?_⟩
          refine q_aload_n rfl rfl rfl ?_
          refine q_aload_nF rfl rfl rfl ?_
          refine q_iload rfl rfl rfl ?_
          refine q_iconst rfl rfl ?_
          refine q_iadd rfl rfl (q_tn (z := 1) rfl ?_)
          refine q_ialdX (x := x1) rfl rfl rfl hx1 ?_
          refine q_aload_nF rfl rfl rfl ?_
          refine q_iload rfl rfl rfl ?_
          refine q_iconst rfl rfl ?_
          refine q_iadd rfl rfl (q_tn (z := 2) rfl ?_)
          refine q_ialdX (x := x2) rfl rfl rfl hx2 ?_
          refine q_aload_nF rfl rfl rfl ?_
          refine q_iload rfl rfl rfl ?_
          refine q_iconst rfl rfl ?_
          refine q_iadd rfl rfl (q_tn (z := 3) rfl ?_)
          refine q_ialdX (x := x3) rfl rfl rfl hx3 ?_
          refine q_aload_nF rfl rfl rfl ?_
          refine q_iload rfl rfl rfl ?_
          refine q_iconst rfl rfl ?_
          refine q_iadd rfl rfl (q_tn (z := 4) rfl ?_)
          refine q_ialdX (x := x4) rfl rfl rfl hx4 ?_
          refine q_aload_nF rfl rfl rfl ?_
          refine q_iload rfl rfl rfl ?_
          refine q_iconst rfl rfl ?_
          refine q_iadd rfl rfl (q_tn (z := 5) rfl ?_)
          refine q_ialdX (x := x5) rfl rfl rfl hx5 ?_
          refine q_nV5 rfl rfl (Or.inl rfl) rfl rfl rfl (by decide) (FW_46 S hW) ⟨rfl, rfl⟩ rfl ?_
          change PQ _ _ _ mm_X12_copy 0 [.ref 46, .int x1, .int x2, .int x3, .int x4, .int x5, pm_un] [] _ _ 0 0 _
          refine q_aload_n rfl rfl rfl ?_
          refine q_iload_n rfl rfl rfl ?_
          refine q_nV1 rfl rfl (Or.inl rfl) rfl rfl rfl (by decide) (FW_46 S hW) ⟨rfl, rfl⟩ rfl ?_
          change PQ _ _ _ mm_X12_isShelf 0 [.ref 46, .int x1] [] _ _ 0 0 _
          refine q_aload_n rfl rfl rfl ?_
          refine q_iload_n rfl rfl rfl ?_
          refine q_iconst rfl rfl ?_
          refine q_bipush rfl rfl ?_
          refine q_nV3 rfl rfl (Or.inl rfl) rfl rfl rfl (by decide) (FW_46 S hW) ⟨rfl, rfl⟩ rfl ?_
          change PQ _ _ _ mm_X12_in 0 [.ref 46, .int x1, .int 0, .int 7] [] _ _ 0 0 _
          refine q_iload_n rfl rfl rfl ?_
          refine q_iload_n rfl rfl rfl ?_
          refine q_iclt rfl rfl (fun c26 => absurd c26 (i_lt_f (i_nlt c1) rfl)) (fun c26 => ?_)
          refine q_iload_n rfl rfl rfl ?_
          refine q_iload_n rfl rfl rfl ?_
          refine q_icgt rfl rfl (fun c27 => absurd c27 (i_gt_f (i_ltle (i_nle c7) (B := 7) rfl) rfl)) (fun c27 => ?_)
          refine q_iconst rfl rfl ?_
          refine q_goto rfl ?_
          refine q_iret rfl rfl rfl ?_
          refine ⟨_, rfl, ?_⟩
          refine q_iret rfl rfl rfl ?_
          refine ⟨_, rfl, ?_⟩
          refine q_ifeq rfl rfl (fun c28 => absurd c28 (by decide)) (fun c28 => ?_)
          refine q_aload_n rfl rfl rfl ?_
          refine q_iload_n rfl rfl rfl ?_
          refine q_nV1 rfl rfl (Or.inl rfl) rfl rfl rfl (by decide) (FW_46 S hW) ⟨rfl, rfl⟩ rfl ?_
          change PQ _ _ _ mm_X12_isShelf 0 [.ref 46, .int x3] [] _ _ 0 0 _
          refine q_aload_n rfl rfl rfl ?_
          refine q_iload_n rfl rfl rfl ?_
          refine q_iconst rfl rfl ?_
          refine q_bipush rfl rfl ?_
          refine q_nV3 rfl rfl (Or.inl rfl) rfl rfl rfl (by decide) (FW_46 S hW) ⟨rfl, rfl⟩ rfl ?_
          change PQ _ _ _ mm_X12_in 0 [.ref 46, .int x3, .int 0, .int 7] [] _ _ 0 0 _
          refine q_iload_n rfl rfl rfl ?_
          refine q_iload_n rfl rfl rfl ?_
          refine q_iclt rfl rfl (fun c29 => absurd c29 (i_lt_f c24 rfl)) (fun c29 => ?_)
          refine q_iload_n rfl rfl rfl ?_
          refine q_iload_n rfl rfl rfl ?_
          refine q_icgt rfl rfl (fun c30 => ?_) (fun c30 => absurd (i_gt_t c24 rfl) c30)
          refine q_iconst rfl rfl ?_
          refine q_iret rfl rfl rfl ?_
          refine ⟨_, rfl, ?_⟩
          refine q_iret rfl rfl rfl ?_
          refine ⟨_, rfl, ?_⟩
          refine q_ifne rfl rfl (fun c31 => ?_) (fun c31 => absurd (by decide) c31)
          refine q_iconst rfl rfl ?_
          refine q_iret rfl rfl trivial ?_
          refine ⟨_, rfl, ?_⟩
          refine q_iceq rfl rfl (fun c32 => ?_) (fun c32 => absurd (by decide) c32)
          refine q_icc4 (z := 6) rfl rfl rfl rfl rfl ?_
          refine q_goto rfl ?_
          refine q_iload rfl rfl rfl ?_
          refine q_aload_nF rfl rfl rfl ?_
          refine q_alenX (x := 6) rfl rfl rfl ?_
          refine q_bipush rfl rfl ?_
          refine q_isub rfl rfl (q_tn (z := 0) rfl ?_)
          refine q_icgt rfl rfl (fun c33 => ?_) (fun c33 => absurd (by decide) c33)
          refine q_iconst rfl rfl ?_
          refine q_iret rfl rfl rfl ?_
          exact hK _ _
        · refine q_iconst rfl rfl ?_
          refine q_goto rfl ?_
          refine q_iret rfl rfl rfl ?_
          refine ⟨_, rfl, ?_⟩
          refine q_ifne rfl rfl (fun c34 => absurd c34 (by decide)) (fun c34 => ?_)
          refine q_aload_n rfl rfl rfl ?_
          refine q_getf rfl rfl (by decide) (FW_0 S hW) rfl ?_
          refine q_iload_n rfl rfl rfl ?_
          refine q_aald rfl rfl (by decide) (FW_43 S hW) (i_in (i_nlt c1) (i_ltle (i_nle c7) (B := 7) rfl) rfl) (q_tv (z := .null) rfl ?_)
          refine q_anl6 rfl rfl rfl rfl ?_
          refine q_aload_n rfl rfl rfl ?_
          refine q_getf rfl rfl (by decide) (FW_0 S hW) rfl ?_
          refine q_iload_n rfl rfl rfl ?_
          refine q_aald rfl rfl (by decide) (FW_43 S hW) (i_in (i_nlt c15) (i_ltle (i_nle c24) (B := 7) rfl) rfl) (q_tv (z := .null) rfl ?_)
          refine q_anl7 rfl rfl rfl rfl ?_
          refine q_aloadN rfl rfl rfl ?_
          refine q_ifnullN rfl ?_
          refine q_bipush rfl rfl ?_
          refine q_iret rfl rfl trivial ?_
          refine ⟨_, rfl, ?_⟩
          refine q_aload_n rfl rfl rfl ?_
          refine q_aload_nF rfl rfl rfl ?_
          refine q_iload rfl rfl rfl ?_
          refine q_iconst rfl rfl ?_
          refine q_iadd rfl rfl (q_tn (z := 1) rfl ?_)
          refine q_ialdX (x := x1) rfl rfl rfl hx1 ?_
          refine q_aload_nF rfl rfl rfl ?_
          refine q_iload rfl rfl rfl ?_
          refine q_iconst rfl rfl ?_
          refine q_iadd rfl rfl (q_tn (z := 2) rfl ?_)
          refine q_ialdX (x := x2) rfl rfl rfl hx2 ?_
          refine q_aload_nF rfl rfl rfl ?_
          refine q_iload rfl rfl rfl ?_
          refine q_iconst rfl rfl ?_
          refine q_iadd rfl rfl (q_tn (z := 3) rfl ?_)
          refine q_ialdX (x := x3) rfl rfl rfl hx3 ?_
          refine q_aload_nF rfl rfl rfl ?_
          refine q_iload rfl rfl rfl ?_
          refine q_iconst rfl rfl ?_
          refine q_iadd rfl rfl (q_tn (z := 4) rfl ?_)
          refine q_ialdX (x := x4) rfl rfl rfl hx4 ?_
          refine q_aload_nF rfl rfl rfl ?_
          refine q_iload rfl rfl rfl ?_
          refine q_iconst rfl rfl ?_
          refine q_iadd rfl rfl (q_tn (z := 5) rfl ?_)
          refine q_ialdX (x := x5) rfl rfl rfl hx5 ?_
          refine q_nV5 rfl rfl (Or.inl rfl) rfl rfl rfl (by decide) (FW_46 S hW) ⟨rfl, rfl⟩ rfl ?_
          change PQ _ _ _ mm_X12_copy 0 [.ref 46, .int x1, .int x2, .int x3, .int x4, .int x5, pm_un] [] _ _ 0 0 _
          refine q_aload_n rfl rfl rfl ?_
          refine q_iload_n rfl rfl rfl ?_
          refine q_nV1 rfl rfl (Or.inl rfl) rfl rfl rfl (by decide) (FW_46 S hW) ⟨rfl, rfl⟩ rfl ?_
          change PQ _ _ _ mm_X12_isShelf 0 [.ref 46, .int x1] [] _ _ 0 0 _
          refine q_aload_n rfl rfl rfl ?_
          refine q_iload_n rfl rfl rfl ?_
          refine q_iconst rfl rfl ?_
          refine q_bipush rfl rfl ?_
          refine q_nV3 rfl rfl (Or.inl rfl) rfl rfl rfl (by decide) (FW_46 S hW) ⟨rfl, rfl⟩ rfl ?_
          change PQ _ _ _ mm_X12_in 0 [.ref 46, .int x1, .int 0, .int 7] [] _ _ 0 0 _
          refine q_iload_n rfl rfl rfl ?_
          refine q_iload_n rfl rfl rfl ?_
          refine q_iclt rfl rfl (fun c35 => absurd c35 (i_lt_f (i_nlt c1) rfl)) (fun c35 => ?_)
          refine q_iload_n rfl rfl rfl ?_
          refine q_iload_n rfl rfl rfl ?_
          refine q_icgt rfl rfl (fun c36 => absurd c36 (i_gt_f (i_ltle (i_nle c7) (B := 7) rfl) rfl)) (fun c36 => ?_)
          refine q_iconst rfl rfl ?_
          refine q_goto rfl ?_
          refine q_iret rfl rfl rfl ?_
          refine ⟨_, rfl, ?_⟩
          refine q_iret rfl rfl rfl ?_
          refine ⟨_, rfl, ?_⟩
          refine q_ifeq rfl rfl (fun c37 => absurd c37 (by decide)) (fun c37 => ?_)
          refine q_aload_n rfl rfl rfl ?_
          refine q_iload_n rfl rfl rfl ?_
          refine q_nV1 rfl rfl (Or.inl rfl) rfl rfl rfl (by decide) (FW_46 S hW) ⟨rfl, rfl⟩ rfl ?_
          change PQ _ _ _ mm_X12_isShelf 0 [.ref 46, .int x3] [] _ _ 0 0 _
          refine q_aload_n rfl rfl rfl ?_
          refine q_iload_n rfl rfl rfl ?_
          refine q_iconst rfl rfl ?_
          refine q_bipush rfl rfl ?_
          refine q_nV3 rfl rfl (Or.inl rfl) rfl rfl rfl (by decide) (FW_46 S hW) ⟨rfl, rfl⟩ rfl ?_
          change PQ _ _ _ mm_X12_in 0 [.ref 46, .int x3, .int 0, .int 7] [] _ _ 0 0 _
          refine q_iload_n rfl rfl rfl ?_
          refine q_iload_n rfl rfl rfl ?_
          refine q_iclt rfl rfl (fun c38 => absurd c38 (i_lt_f (i_nlt c15) rfl)) (fun c38 => ?_)
          refine q_iload_n rfl rfl rfl ?_
          refine q_iload_n rfl rfl rfl ?_
          refine q_icgt rfl rfl (fun c39 => absurd c39 (i_gt_f (i_ltle (i_nle c24) (B := 7) rfl) rfl)) (fun c39 => ?_)
          refine q_iconst rfl rfl ?_
          refine q_goto rfl ?_
          refine q_iret rfl rfl rfl ?_
          refine ⟨_, rfl, ?_⟩
          refine q_iret rfl rfl rfl ?_
          refine ⟨_, rfl, ?_⟩
          refine q_ifne rfl rfl (fun c40 => absurd c40 (by decide)) (fun c40 => ?_)
          refine q_aload_n rfl rfl rfl ?_
          refine q_getf rfl rfl (by decide) (FW_46 S hW) rfl ?_
          refine q_iload_n rfl rfl rfl ?_
          refine q_iald rfl rfl (by decide) (FW_75 S hW) (i_in (i_nlt c1) (i_ltle (i_nle c7) (B := 7) rfl) rfl) (q_tn (z := 0) rfl ?_)
          refine q_ifeq rfl rfl (fun c41 => ?_) (fun c41 => absurd (by decide) c41)
          refine q_bipush rfl rfl ?_
          refine q_iret rfl rfl trivial ?_
          refine ⟨_, rfl, ?_⟩
          refine q_iceq rfl rfl (fun c42 => ?_) (fun c42 => absurd (by decide) c42)
          refine q_icc4 (z := 6) rfl rfl rfl rfl rfl ?_
          refine q_goto rfl ?_
          refine q_iload rfl rfl rfl ?_
          refine q_aload_nF rfl rfl rfl ?_
          refine q_alenX (x := 6) rfl rfl rfl ?_
          refine q_bipush rfl rfl ?_
          refine q_isub rfl rfl (q_tn (z := 0) rfl ?_)
          refine q_icgt rfl rfl (fun c43 => ?_) (fun c43 => absurd (by decide) c43)
          refine q_iconst rfl rfl ?_
          refine q_iret rfl rfl rfl ?_
          exact hK _ _
set_option maxHeartbeats 40000000 in
set_option maxRecDepth 20000 in
theorem t_op27 {S : Nat → pm_E} (hW : FW S) {x1 x2 x3 x4 x5 : Int32} (hx1 : xs 1 = x1) (hx2 : xs 2 = x2) (hx3 : xs 3 = x3) (hx4 : xs 4 = x4) (hx5 : xs 5 = x5) (hK : ∀ S n, K (some (.int 1)) S n) : PQ (j_SL 6) (j_SV xs) EX mm_L_law 1217 [.float 5, .ref 0, .ref 46, .ref 81, .int 0, pm_un, pm_un, pm_un] [] S 82 82 190091 K := by
  refine q_aload_n rfl rfl rfl ?_
  refine q_aload_nF rfl rfl rfl ?_
  refine q_iload rfl rfl rfl ?_
  refine q_iconst rfl rfl ?_
  refine q_iadd rfl rfl (q_tn (z := 1) rfl ?_)
  refine q_ialdX (x := x1) rfl rfl rfl hx1 ?_
  refine q_nV1 rfl rfl (Or.inl rfl) rfl rfl rfl (by decide) (FW_0 S hW) ⟨rfl, rfl⟩ rfl ?_
  change PQ _ _ _ mm_X11_weight 0 [.ref 0, .int x1, pm_un, pm_un] [] _ _ 0 0 _
  refine q_iload_n rfl rfl rfl ?_
  refine q_bipush rfl rfl ?_
  refine q_nS2 rfl rfl (Or.inl rfl) rfl rfl ⟨rfl, rfl⟩ rfl ?_
  change PQ _ _ _ mm_X11_within 0 [.int x1, .int 8] [] _ _ 0 0 _
  refine q_iload_n rfl rfl rfl ?_
  refine q_iflt rfl rfl (fun c1 => ?_) (fun c1 => ?_)
  · refine q_iconst rfl rfl ?_
    refine q_iret rfl rfl rfl ?_
    refine ⟨_, rfl, ?_⟩
    refine q_ifne rfl rfl (fun c2 => ?_) (fun c2 => absurd (by decide) c2)
    refine q_iconst rfl rfl ?_
    refine q_iret rfl rfl trivial ?_
    refine ⟨_, rfl, ?_⟩
    refine q_aload_n rfl rfl rfl ?_
    refine q_aload_nF rfl rfl rfl ?_
    refine q_iload rfl rfl rfl ?_
    refine q_iconst rfl rfl ?_
    refine q_iadd rfl rfl (q_tn (z := 1) rfl ?_)
    refine q_ialdX (x := x1) rfl rfl rfl hx1 ?_
    refine q_nV1 rfl rfl (Or.inl rfl) rfl rfl rfl (by decide) (FW_46 S hW) ⟨rfl, rfl⟩ rfl ?_
    change PQ _ _ _ mm_X12_weight 0 [.ref 46, .int x1, pm_un, pm_un] [] _ _ 0 0 _
    refine q_aload_n rfl rfl rfl ?_
    refine q_iload_n rfl rfl rfl ?_
    refine q_nV1 rfl rfl (Or.inl rfl) rfl rfl rfl (by decide) (FW_46 S hW) ⟨rfl, rfl⟩ rfl ?_
    change PQ _ _ _ mm_X12_lacksStatement 0 [.ref 46, .int x1] [] _ _ 0 0 _
    refine q_aload_n rfl rfl rfl ?_
    refine q_iload_n rfl rfl rfl ?_
    refine q_nV1 rfl rfl (Or.inl rfl) rfl rfl rfl (by decide) (FW_46 S hW) ⟨rfl, rfl⟩ rfl ?_
    change PQ _ _ _ mm_X12_isShelf 0 [.ref 46, .int x1] [] _ _ 0 0 _
    refine q_aload_n rfl rfl rfl ?_
    refine q_iload_n rfl rfl rfl ?_
    refine q_iconst rfl rfl ?_
    refine q_bipush rfl rfl ?_
    refine q_nV3 rfl rfl (Or.inl rfl) rfl rfl rfl (by decide) (FW_46 S hW) ⟨rfl, rfl⟩ rfl ?_
    change PQ _ _ _ mm_X12_in 0 [.ref 46, .int x1, .int 0, .int 7] [] _ _ 0 0 _
    refine q_iload_n rfl rfl rfl ?_
    refine q_iload_n rfl rfl rfl ?_
    refine q_iclt rfl rfl (fun c3 => ?_) (fun c3 => absurd (i_lt_t (i_ltle c1 (B := (-1)) rfl) rfl) c3)
    refine q_iconst rfl rfl ?_
    refine q_iret rfl rfl rfl ?_
    refine ⟨_, rfl, ?_⟩
    refine q_iret rfl rfl rfl ?_
    refine ⟨_, rfl, ?_⟩
    refine q_ifne rfl rfl (fun c4 => ?_) (fun c4 => absurd (by decide) c4)
    refine q_iconst rfl rfl ?_
    refine q_goto rfl ?_
    refine q_iret rfl rfl trivial ?_
    refine ⟨_, rfl, ?_⟩
    refine q_ifeq rfl rfl (fun c5 => absurd c5 (by decide)) (fun c5 => ?_)
    refine q_aload_n rfl rfl rfl ?_
    refine q_iload_n rfl rfl rfl ?_
    refine q_nV1 rfl rfl (Or.inl rfl) rfl rfl rfl (by decide) (FW_46 S hW) ⟨rfl, rfl⟩ rfl ?_
    change PQ _ _ _ mm_X12_lacksStatement 0 [.ref 46, .int x1] [] _ _ 0 0 _
    refine q_aload_n rfl rfl rfl ?_
    refine q_iload_n rfl rfl rfl ?_
    refine q_nV1 rfl rfl (Or.inl rfl) rfl rfl rfl (by decide) (FW_46 S hW) ⟨rfl, rfl⟩ rfl ?_
    change PQ _ _ _ mm_X12_isShelf 0 [.ref 46, .int x1] [] _ _ 0 0 _
    refine q_aload_n rfl rfl rfl ?_
    refine q_iload_n rfl rfl rfl ?_
    refine q_iconst rfl rfl ?_
    refine q_bipush rfl rfl ?_
    refine q_nV3 rfl rfl (Or.inl rfl) rfl rfl rfl (by decide) (FW_46 S hW) ⟨rfl, rfl⟩ rfl ?_
    change PQ _ _ _ mm_X12_in 0 [.ref 46, .int x1, .int 0, .int 7] [] _ _ 0 0 _
    refine q_iload_n rfl rfl rfl ?_
    refine q_iload_n rfl rfl rfl ?_
    refine q_iclt rfl rfl (fun c6 => ?_) (fun c6 => absurd (i_lt_t (i_ltle c1 (B := (-1)) rfl) rfl) c6)
    refine q_iconst rfl rfl ?_
    refine q_iret rfl rfl rfl ?_
    refine ⟨_, rfl, ?_⟩
    refine q_iret rfl rfl rfl ?_
    refine ⟨_, rfl, ?_⟩
    refine q_ifne rfl rfl (fun c7 => ?_) (fun c7 => absurd (by decide) c7)
    refine q_iconst rfl rfl ?_
    refine q_goto rfl ?_
    refine q_iret rfl rfl trivial ?_
    refine ⟨_, rfl, ?_⟩
    refine q_iret rfl rfl trivial ?_
    refine ⟨_, rfl, ?_⟩
    refine q_iceq rfl rfl (fun c8 => ?_) (fun c8 => absurd (by decide) c8)
    refine q_icc4 (z := 6) rfl rfl rfl rfl rfl ?_
    refine q_goto rfl ?_
    refine q_iload rfl rfl rfl ?_
    refine q_aload_nF rfl rfl rfl ?_
    refine q_alenX (x := 6) rfl rfl rfl ?_
    refine q_bipush rfl rfl ?_
    refine q_isub rfl rfl (q_tn (z := 0) rfl ?_)
    refine q_icgt rfl rfl (fun c9 => ?_) (fun c9 => absurd (by decide) c9)
    refine q_iconst rfl rfl ?_
    refine q_iret rfl rfl rfl ?_
    exact hK _ _
  · refine q_iload_n rfl rfl rfl ?_
    refine q_iload_n rfl rfl rfl ?_
    refine q_icge rfl rfl (fun c10 => ?_) (fun c10 => ?_)
    · refine q_iconst rfl rfl ?_
      refine q_iret rfl rfl rfl ?_
      refine ⟨_, rfl, ?_⟩
      refine q_ifne rfl rfl (fun c11 => ?_) (fun c11 => absurd (by decide) c11)
      refine q_iconst rfl rfl ?_
      refine q_iret rfl rfl trivial ?_
      refine ⟨_, rfl, ?_⟩
      refine q_aload_n rfl rfl rfl ?_
      refine q_aload_nF rfl rfl rfl ?_
      refine q_iload rfl rfl rfl ?_
      refine q_iconst rfl rfl ?_
      refine q_iadd rfl rfl (q_tn (z := 1) rfl ?_)
      refine q_ialdX (x := x1) rfl rfl rfl hx1 ?_
      refine q_nV1 rfl rfl (Or.inl rfl) rfl rfl rfl (by decide) (FW_46 S hW) ⟨rfl, rfl⟩ rfl ?_
      change PQ _ _ _ mm_X12_weight 0 [.ref 46, .int x1, pm_un, pm_un] [] _ _ 0 0 _
      refine q_aload_n rfl rfl rfl ?_
      refine q_iload_n rfl rfl rfl ?_
      refine q_nV1 rfl rfl (Or.inl rfl) rfl rfl rfl (by decide) (FW_46 S hW) ⟨rfl, rfl⟩ rfl ?_
      change PQ _ _ _ mm_X12_lacksStatement 0 [.ref 46, .int x1] [] _ _ 0 0 _
      refine q_aload_n rfl rfl rfl ?_
      refine q_iload_n rfl rfl rfl ?_
      refine q_nV1 rfl rfl (Or.inl rfl) rfl rfl rfl (by decide) (FW_46 S hW) ⟨rfl, rfl⟩ rfl ?_
      change PQ _ _ _ mm_X12_isShelf 0 [.ref 46, .int x1] [] _ _ 0 0 _
      refine q_aload_n rfl rfl rfl ?_
      refine q_iload_n rfl rfl rfl ?_
      refine q_iconst rfl rfl ?_
      refine q_bipush rfl rfl ?_
      refine q_nV3 rfl rfl (Or.inl rfl) rfl rfl rfl (by decide) (FW_46 S hW) ⟨rfl, rfl⟩ rfl ?_
      change PQ _ _ _ mm_X12_in 0 [.ref 46, .int x1, .int 0, .int 7] [] _ _ 0 0 _
      refine q_iload_n rfl rfl rfl ?_
      refine q_iload_n rfl rfl rfl ?_
      refine q_iclt rfl rfl (fun c12 => absurd c12 (i_lt_f c10 rfl)) (fun c12 => ?_)
      refine q_iload_n rfl rfl rfl ?_
      refine q_iload_n rfl rfl rfl ?_
      refine q_icgt rfl rfl (fun c13 => ?_) (fun c13 => absurd (i_gt_t c10 rfl) c13)
      refine q_iconst rfl rfl ?_
      refine q_iret rfl rfl rfl ?_
      refine ⟨_, rfl, ?_⟩
      refine q_iret rfl rfl rfl ?_
      refine ⟨_, rfl, ?_⟩
      refine q_ifne rfl rfl (fun c14 => ?_) (fun c14 => absurd (by decide) c14)
      refine q_iconst rfl rfl ?_
      refine q_goto rfl ?_
      refine q_iret rfl rfl trivial ?_
      refine ⟨_, rfl, ?_⟩
      refine q_ifeq rfl rfl (fun c15 => absurd c15 (by decide)) (fun c15 => ?_)
      refine q_aload_n rfl rfl rfl ?_
      refine q_iload_n rfl rfl rfl ?_
      refine q_nV1 rfl rfl (Or.inl rfl) rfl rfl rfl (by decide) (FW_46 S hW) ⟨rfl, rfl⟩ rfl ?_
      change PQ _ _ _ mm_X12_lacksStatement 0 [.ref 46, .int x1] [] _ _ 0 0 _
      refine q_aload_n rfl rfl rfl ?_
      refine q_iload_n rfl rfl rfl ?_
      refine q_nV1 rfl rfl (Or.inl rfl) rfl rfl rfl (by decide) (FW_46 S hW) ⟨rfl, rfl⟩ rfl ?_
      change PQ _ _ _ mm_X12_isShelf 0 [.ref 46, .int x1] [] _ _ 0 0 _
      refine q_aload_n rfl rfl rfl ?_
      refine q_iload_n rfl rfl rfl ?_
      refine q_iconst rfl rfl ?_
      refine q_bipush rfl rfl ?_
      refine q_nV3 rfl rfl (Or.inl rfl) rfl rfl rfl (by decide) (FW_46 S hW) ⟨rfl, rfl⟩ rfl ?_
      change PQ _ _ _ mm_X12_in 0 [.ref 46, .int x1, .int 0, .int 7] [] _ _ 0 0 _
      refine q_iload_n rfl rfl rfl ?_
      refine q_iload_n rfl rfl rfl ?_
      refine q_iclt rfl rfl (fun c16 => absurd c16 (i_lt_f c10 rfl)) (fun c16 => ?_)
      refine q_iload_n rfl rfl rfl ?_
      refine q_iload_n rfl rfl rfl ?_
      refine q_icgt rfl rfl (fun c17 => ?_) (fun c17 => absurd (i_gt_t c10 rfl) c17)
      refine q_iconst rfl rfl ?_
      refine q_iret rfl rfl rfl ?_
      refine ⟨_, rfl, ?_⟩
      refine q_iret rfl rfl rfl ?_
      refine ⟨_, rfl, ?_⟩
      refine q_ifne rfl rfl (fun c18 => ?_) (fun c18 => absurd (by decide) c18)
      refine q_iconst rfl rfl ?_
      refine q_goto rfl ?_
      refine q_iret rfl rfl trivial ?_
      refine ⟨_, rfl, ?_⟩
      refine q_iret rfl rfl trivial ?_
      refine ⟨_, rfl, ?_⟩
      refine q_iceq rfl rfl (fun c19 => ?_) (fun c19 => absurd (by decide) c19)
      refine q_icc4 (z := 6) rfl rfl rfl rfl rfl ?_
      refine q_goto rfl ?_
      refine q_iload rfl rfl rfl ?_
      refine q_aload_nF rfl rfl rfl ?_
      refine q_alenX (x := 6) rfl rfl rfl ?_
      refine q_bipush rfl rfl ?_
      refine q_isub rfl rfl (q_tn (z := 0) rfl ?_)
      refine q_icgt rfl rfl (fun c20 => ?_) (fun c20 => absurd (by decide) c20)
      refine q_iconst rfl rfl ?_
      refine q_iret rfl rfl rfl ?_
      exact hK _ _
    · refine q_iconst rfl rfl ?_
      refine q_goto rfl ?_
      refine q_iret rfl rfl rfl ?_
      refine ⟨_, rfl, ?_⟩
      refine q_ifne rfl rfl (fun c21 => absurd c21 (by decide)) (fun c21 => ?_)
      refine q_aload_n rfl rfl rfl ?_
      refine q_getf rfl rfl (by decide) (FW_0 S hW) rfl ?_
      refine q_iload_n rfl rfl rfl ?_
      refine q_aald rfl rfl (by decide) (FW_43 S hW) (i_in (i_nlt c1) (i_ltle (i_nle c10) (B := 7) rfl) rfl) (q_tv (z := .null) rfl ?_)
      refine q_anl2n rfl rfl rfl rfl ?_
      refine q_aload_nN rfl rfl rfl ?_
      refine q_ifnonnullN rfl rfl ?_
      refine q_bipush rfl rfl ?_
      refine q_iret rfl rfl trivial ?_
      refine ⟨_, rfl, ?_⟩
      refine q_aload_n rfl rfl rfl ?_
      refine q_aload_nF rfl rfl rfl ?_
      refine q_iload rfl rfl rfl ?_
      refine q_iconst rfl rfl ?_
      refine q_iadd rfl rfl (q_tn (z := 1) rfl ?_)
      refine q_ialdX (x := x1) rfl rfl rfl hx1 ?_
      refine q_nV1 rfl rfl (Or.inl rfl) rfl rfl rfl (by decide) (FW_46 S hW) ⟨rfl, rfl⟩ rfl ?_
      change PQ _ _ _ mm_X12_weight 0 [.ref 46, .int x1, pm_un, pm_un] [] _ _ 0 0 _
      refine q_aload_n rfl rfl rfl ?_
      refine q_iload_n rfl rfl rfl ?_
      refine q_nV1 rfl rfl (Or.inl rfl) rfl rfl rfl (by decide) (FW_46 S hW) ⟨rfl, rfl⟩ rfl ?_
      change PQ _ _ _ mm_X12_lacksStatement 0 [.ref 46, .int x1] [] _ _ 0 0 _
      refine q_aload_n rfl rfl rfl ?_
      refine q_iload_n rfl rfl rfl ?_
      refine q_nV1 rfl rfl (Or.inl rfl) rfl rfl rfl (by decide) (FW_46 S hW) ⟨rfl, rfl⟩ rfl ?_
      change PQ _ _ _ mm_X12_isShelf 0 [.ref 46, .int x1] [] _ _ 0 0 _
      refine q_aload_n rfl rfl rfl ?_
      refine q_iload_n rfl rfl rfl ?_
      refine q_iconst rfl rfl ?_
      refine q_bipush rfl rfl ?_
      refine q_nV3 rfl rfl (Or.inl rfl) rfl rfl rfl (by decide) (FW_46 S hW) ⟨rfl, rfl⟩ rfl ?_
      change PQ _ _ _ mm_X12_in 0 [.ref 46, .int x1, .int 0, .int 7] [] _ _ 0 0 _
      refine q_iload_n rfl rfl rfl ?_
      refine q_iload_n rfl rfl rfl ?_
      refine q_iclt rfl rfl (fun c22 => absurd c22 (i_lt_f (i_nlt c1) rfl)) (fun c22 => ?_)
      refine q_iload_n rfl rfl rfl ?_
      refine q_iload_n rfl rfl rfl ?_
      refine q_icgt rfl rfl (fun c23 => absurd c23 (i_gt_f (i_ltle (i_nle c10) (B := 7) rfl) rfl)) (fun c23 => ?_)
      refine q_iconst rfl rfl ?_
      refine q_goto rfl ?_
      refine q_iret rfl rfl rfl ?_
      refine ⟨_, rfl, ?_⟩
      refine q_iret rfl rfl rfl ?_
      refine ⟨_, rfl, ?_⟩
      refine q_ifne rfl rfl (fun c24 => absurd c24 (by decide)) (fun c24 => ?_)
      refine q_aload_n rfl rfl rfl ?_
      refine q_getf rfl rfl (by decide) (FW_46 S hW) rfl ?_
      refine q_iload_n rfl rfl rfl ?_
      refine q_iald rfl rfl (by decide) (FW_75 S hW) (i_in (i_nlt c1) (i_ltle (i_nle c10) (B := 7) rfl) rfl) (q_tn (z := 0) rfl ?_)
      refine q_ifne rfl rfl (fun c25 => ?_) (fun c25 => absurd (by decide) c25)
      refine q_bipush rfl rfl ?_
      refine q_goto rfl ?_
      refine q_iret rfl rfl trivial ?_
      refine ⟨_, rfl, ?_⟩
      refine q_ifeq rfl rfl (fun c26 => absurd c26 (by decide)) (fun c26 => ?_)
      refine q_aload_n rfl rfl rfl ?_
      refine q_iload_n rfl rfl rfl ?_
      refine q_nV1 rfl rfl (Or.inl rfl) rfl rfl rfl (by decide) (FW_46 S hW) ⟨rfl, rfl⟩ rfl ?_
      change PQ _ _ _ mm_X12_lacksStatement 0 [.ref 46, .int x1] [] _ _ 0 0 _
      refine q_aload_n rfl rfl rfl ?_
      refine q_iload_n rfl rfl rfl ?_
      refine q_nV1 rfl rfl (Or.inl rfl) rfl rfl rfl (by decide) (FW_46 S hW) ⟨rfl, rfl⟩ rfl ?_
      change PQ _ _ _ mm_X12_isShelf 0 [.ref 46, .int x1] [] _ _ 0 0 _
      refine q_aload_n rfl rfl rfl ?_
      refine q_iload_n rfl rfl rfl ?_
      refine q_iconst rfl rfl ?_
      refine q_bipush rfl rfl ?_
      refine q_nV3 rfl rfl (Or.inl rfl) rfl rfl rfl (by decide) (FW_46 S hW) ⟨rfl, rfl⟩ rfl ?_
      change PQ _ _ _ mm_X12_in 0 [.ref 46, .int x1, .int 0, .int 7] [] _ _ 0 0 _
      refine q_iload_n rfl rfl rfl ?_
      refine q_iload_n rfl rfl rfl ?_
      refine q_iclt rfl rfl (fun c27 => absurd c27 (i_lt_f (i_nlt c1) rfl)) (fun c27 => ?_)
      refine q_iload_n rfl rfl rfl ?_
      refine q_iload_n rfl rfl rfl ?_
      refine q_icgt rfl rfl (fun c28 => absurd c28 (i_gt_f (i_ltle (i_nle c10) (B := 7) rfl) rfl)) (fun c28 => ?_)
      refine q_iconst rfl rfl ?_
      refine q_goto rfl ?_
      refine q_iret rfl rfl rfl ?_
      refine ⟨_, rfl, ?_⟩
      refine q_iret rfl rfl rfl ?_
      refine ⟨_, rfl, ?_⟩
      refine q_ifne rfl rfl (fun c29 => absurd c29 (by decide)) (fun c29 => ?_)
      refine q_aload_n rfl rfl rfl ?_
      refine q_getf rfl rfl (by decide) (FW_46 S hW) rfl ?_
      refine q_iload_n rfl rfl rfl ?_
      refine q_iald rfl rfl (by decide) (FW_75 S hW) (i_in (i_nlt c1) (i_ltle (i_nle c10) (B := 7) rfl) rfl) (q_tn (z := 0) rfl ?_)
      refine q_ifne rfl rfl (fun c30 => ?_) (fun c30 => absurd (by decide) c30)
      refine q_bipush rfl rfl ?_
      refine q_goto rfl ?_
      refine q_iret rfl rfl trivial ?_
      refine ⟨_, rfl, ?_⟩
      refine q_iret rfl rfl trivial ?_
      refine ⟨_, rfl, ?_⟩
      refine q_iceq rfl rfl (fun c31 => ?_) (fun c31 => absurd (by decide) c31)
      refine q_icc4 (z := 6) rfl rfl rfl rfl rfl ?_
      refine q_goto rfl ?_
      refine q_iload rfl rfl rfl ?_
      refine q_aload_nF rfl rfl rfl ?_
      refine q_alenX (x := 6) rfl rfl rfl ?_
      refine q_bipush rfl rfl ?_
      refine q_isub rfl rfl (q_tn (z := 0) rfl ?_)
      refine q_icgt rfl rfl (fun c32 => ?_) (fun c32 => absurd (by decide) c32)
      refine q_iconst rfl rfl ?_
      refine q_iret rfl rfl rfl ?_
      exact hK _ _
set_option maxHeartbeats 40000000 in
set_option maxRecDepth 20000 in
theorem t_op28 {S : Nat → pm_E} (hW : FW S) {x1 x2 x3 x4 x5 : Int32} (hx1 : xs 1 = x1) (hx2 : xs 2 = x2) (hx3 : xs 3 = x3) (hx4 : xs 4 = x4) (hx5 : xs 5 = x5) (hK : ∀ S n, K (some (.int 1)) S n) : PQ (j_SL 6) (j_SV xs) EX mm_L_law 1242 [.float 5, .ref 0, .ref 46, .ref 81, .int 0, pm_un, pm_un, pm_un] [] S 82 82 190091 K := by
  refine q_aload_n rfl rfl rfl ?_
  refine q_aload_nF rfl rfl rfl ?_
  refine q_iload rfl rfl rfl ?_
  refine q_iconst rfl rfl ?_
  refine q_iadd rfl rfl (q_tn (z := 1) rfl ?_)
  refine q_ialdX (x := x1) rfl rfl rfl hx1 ?_
  refine q_nV1 rfl rfl (Or.inl rfl) rfl rfl rfl (by decide) (FW_0 S hW) ⟨rfl, rfl⟩ rfl ?_
  change PQ _ _ _ mm_X11_toss 0 [.ref 0, .int x1, pm_un, pm_un] [] _ _ 0 0 _
  refine q_iload_n rfl rfl rfl ?_
  refine q_bipush rfl rfl ?_
  refine q_nS2 rfl rfl (Or.inl rfl) rfl rfl ⟨rfl, rfl⟩ rfl ?_
  change PQ _ _ _ mm_X11_within 0 [.int x1, .int 8] [] _ _ 0 0 _
  refine q_iload_n rfl rfl rfl ?_
  refine q_iflt rfl rfl (fun c1 => ?_) (fun c1 => ?_)
  · refine q_iconst rfl rfl ?_
    refine q_iret rfl rfl rfl ?_
    refine ⟨_, rfl, ?_⟩
    refine q_ifne rfl rfl (fun c2 => ?_) (fun c2 => absurd (by decide) c2)
    refine q_iconst rfl rfl ?_
    refine q_iret rfl rfl trivial ?_
    refine ⟨_, rfl, ?_⟩
    refine q_aload_n rfl rfl rfl ?_
    refine q_aload_nF rfl rfl rfl ?_
    refine q_iload rfl rfl rfl ?_
    refine q_iconst rfl rfl ?_
    refine q_iadd rfl rfl (q_tn (z := 1) rfl ?_)
    refine q_ialdX (x := x1) rfl rfl rfl hx1 ?_
    refine q_nV1 rfl rfl (Or.inl rfl) rfl rfl rfl (by decide) (FW_46 S hW) ⟨rfl, rfl⟩ rfl ?_
    change PQ _ _ _ mm_X12_toss 0 [.ref 46, .int x1] [] _ _ 0 0 _
    refine q_aload_n rfl rfl rfl ?_
    refine q_iload_n rfl rfl rfl ?_
    refine q_nV1 rfl rfl (Or.inl rfl) rfl rfl rfl (by decide) (FW_46 S hW) ⟨rfl, rfl⟩ rfl ?_
    change PQ _ _ _ mm_X12_lacksStatement 0 [.ref 46, .int x1] [] _ _ 0 0 _
    refine q_aload_n rfl rfl rfl ?_
    refine q_iload_n rfl rfl rfl ?_
    refine q_nV1 rfl rfl (Or.inl rfl) rfl rfl rfl (by decide) (FW_46 S hW) ⟨rfl, rfl⟩ rfl ?_
    change PQ _ _ _ mm_X12_isShelf 0 [.ref 46, .int x1] [] _ _ 0 0 _
    refine q_aload_n rfl rfl rfl ?_
    refine q_iload_n rfl rfl rfl ?_
    refine q_iconst rfl rfl ?_
    refine q_bipush rfl rfl ?_
    refine q_nV3 rfl rfl (Or.inl rfl) rfl rfl rfl (by decide) (FW_46 S hW) ⟨rfl, rfl⟩ rfl ?_
    change PQ _ _ _ mm_X12_in 0 [.ref 46, .int x1, .int 0, .int 7] [] _ _ 0 0 _
    refine q_iload_n rfl rfl rfl ?_
    refine q_iload_n rfl rfl rfl ?_
    refine q_iclt rfl rfl (fun c3 => ?_) (fun c3 => absurd (i_lt_t (i_ltle c1 (B := (-1)) rfl) rfl) c3)
    refine q_iconst rfl rfl ?_
    refine q_iret rfl rfl rfl ?_
    refine ⟨_, rfl, ?_⟩
    refine q_iret rfl rfl rfl ?_
    refine ⟨_, rfl, ?_⟩
    refine q_ifne rfl rfl (fun c4 => ?_) (fun c4 => absurd (by decide) c4)
    refine q_iconst rfl rfl ?_
    refine q_goto rfl ?_
    refine q_iret rfl rfl trivial ?_
    refine ⟨_, rfl, ?_⟩
    refine q_ifeq rfl rfl (fun c5 => absurd c5 (by decide)) (fun c5 => ?_)
    refine q_aload_n rfl rfl rfl ?_
    refine q_iload_n rfl rfl rfl ?_
    refine q_nV1 rfl rfl (Or.inl rfl) rfl rfl rfl (by decide) (FW_46 S hW) ⟨rfl, rfl⟩ rfl ?_
    change PQ _ _ _ mm_X12_lacksStatement 0 [.ref 46, .int x1] [] _ _ 0 0 _
    refine q_aload_n rfl rfl rfl ?_
    refine q_iload_n rfl rfl rfl ?_
    refine q_nV1 rfl rfl (Or.inl rfl) rfl rfl rfl (by decide) (FW_46 S hW) ⟨rfl, rfl⟩ rfl ?_
    change PQ _ _ _ mm_X12_isShelf 0 [.ref 46, .int x1] [] _ _ 0 0 _
    refine q_aload_n rfl rfl rfl ?_
    refine q_iload_n rfl rfl rfl ?_
    refine q_iconst rfl rfl ?_
    refine q_bipush rfl rfl ?_
    refine q_nV3 rfl rfl (Or.inl rfl) rfl rfl rfl (by decide) (FW_46 S hW) ⟨rfl, rfl⟩ rfl ?_
    change PQ _ _ _ mm_X12_in 0 [.ref 46, .int x1, .int 0, .int 7] [] _ _ 0 0 _
    refine q_iload_n rfl rfl rfl ?_
    refine q_iload_n rfl rfl rfl ?_
    refine q_iclt rfl rfl (fun c6 => ?_) (fun c6 => absurd (i_lt_t (i_ltle c1 (B := (-1)) rfl) rfl) c6)
    refine q_iconst rfl rfl ?_
    refine q_iret rfl rfl rfl ?_
    refine ⟨_, rfl, ?_⟩
    refine q_iret rfl rfl rfl ?_
    refine ⟨_, rfl, ?_⟩
    refine q_ifne rfl rfl (fun c7 => ?_) (fun c7 => absurd (by decide) c7)
    refine q_iconst rfl rfl ?_
    refine q_goto rfl ?_
    refine q_iret rfl rfl trivial ?_
    refine ⟨_, rfl, ?_⟩
    refine q_iret rfl rfl trivial ?_
    refine ⟨_, rfl, ?_⟩
    refine q_iceq rfl rfl (fun c8 => ?_) (fun c8 => absurd (by decide) c8)
    refine q_icc4 (z := 6) rfl rfl rfl rfl rfl ?_
    refine q_goto rfl ?_
    refine q_iload rfl rfl rfl ?_
    refine q_aload_nF rfl rfl rfl ?_
    refine q_alenX (x := 6) rfl rfl rfl ?_
    refine q_bipush rfl rfl ?_
    refine q_isub rfl rfl (q_tn (z := 0) rfl ?_)
    refine q_icgt rfl rfl (fun c9 => ?_) (fun c9 => absurd (by decide) c9)
    refine q_iconst rfl rfl ?_
    refine q_iret rfl rfl rfl ?_
    exact hK _ _
  · refine q_iload_n rfl rfl rfl ?_
    refine q_iload_n rfl rfl rfl ?_
    refine q_icge rfl rfl (fun c10 => ?_) (fun c10 => ?_)
    · refine q_iconst rfl rfl ?_
      refine q_iret rfl rfl rfl ?_
      refine ⟨_, rfl, ?_⟩
      refine q_ifne rfl rfl (fun c11 => ?_) (fun c11 => absurd (by decide) c11)
      refine q_iconst rfl rfl ?_
      refine q_iret rfl rfl trivial ?_
      refine ⟨_, rfl, ?_⟩
      refine q_aload_n rfl rfl rfl ?_
      refine q_aload_nF rfl rfl rfl ?_
      refine q_iload rfl rfl rfl ?_
      refine q_iconst rfl rfl ?_
      refine q_iadd rfl rfl (q_tn (z := 1) rfl ?_)
      refine q_ialdX (x := x1) rfl rfl rfl hx1 ?_
      refine q_nV1 rfl rfl (Or.inl rfl) rfl rfl rfl (by decide) (FW_46 S hW) ⟨rfl, rfl⟩ rfl ?_
      change PQ _ _ _ mm_X12_toss 0 [.ref 46, .int x1] [] _ _ 0 0 _
      refine q_aload_n rfl rfl rfl ?_
      refine q_iload_n rfl rfl rfl ?_
      refine q_nV1 rfl rfl (Or.inl rfl) rfl rfl rfl (by decide) (FW_46 S hW) ⟨rfl, rfl⟩ rfl ?_
      change PQ _ _ _ mm_X12_lacksStatement 0 [.ref 46, .int x1] [] _ _ 0 0 _
      refine q_aload_n rfl rfl rfl ?_
      refine q_iload_n rfl rfl rfl ?_
      refine q_nV1 rfl rfl (Or.inl rfl) rfl rfl rfl (by decide) (FW_46 S hW) ⟨rfl, rfl⟩ rfl ?_
      change PQ _ _ _ mm_X12_isShelf 0 [.ref 46, .int x1] [] _ _ 0 0 _
      refine q_aload_n rfl rfl rfl ?_
      refine q_iload_n rfl rfl rfl ?_
      refine q_iconst rfl rfl ?_
      refine q_bipush rfl rfl ?_
      refine q_nV3 rfl rfl (Or.inl rfl) rfl rfl rfl (by decide) (FW_46 S hW) ⟨rfl, rfl⟩ rfl ?_
      change PQ _ _ _ mm_X12_in 0 [.ref 46, .int x1, .int 0, .int 7] [] _ _ 0 0 _
      refine q_iload_n rfl rfl rfl ?_
      refine q_iload_n rfl rfl rfl ?_
      refine q_iclt rfl rfl (fun c12 => absurd c12 (i_lt_f c10 rfl)) (fun c12 => ?_)
      refine q_iload_n rfl rfl rfl ?_
      refine q_iload_n rfl rfl rfl ?_
      refine q_icgt rfl rfl (fun c13 => ?_) (fun c13 => absurd (i_gt_t c10 rfl) c13)
      refine q_iconst rfl rfl ?_
      refine q_iret rfl rfl rfl ?_
      refine ⟨_, rfl, ?_⟩
      refine q_iret rfl rfl rfl ?_
      refine ⟨_, rfl, ?_⟩
      refine q_ifne rfl rfl (fun c14 => ?_) (fun c14 => absurd (by decide) c14)
      refine q_iconst rfl rfl ?_
      refine q_goto rfl ?_
      refine q_iret rfl rfl trivial ?_
      refine ⟨_, rfl, ?_⟩
      refine q_ifeq rfl rfl (fun c15 => absurd c15 (by decide)) (fun c15 => ?_)
      refine q_aload_n rfl rfl rfl ?_
      refine q_iload_n rfl rfl rfl ?_
      refine q_nV1 rfl rfl (Or.inl rfl) rfl rfl rfl (by decide) (FW_46 S hW) ⟨rfl, rfl⟩ rfl ?_
      change PQ _ _ _ mm_X12_lacksStatement 0 [.ref 46, .int x1] [] _ _ 0 0 _
      refine q_aload_n rfl rfl rfl ?_
      refine q_iload_n rfl rfl rfl ?_
      refine q_nV1 rfl rfl (Or.inl rfl) rfl rfl rfl (by decide) (FW_46 S hW) ⟨rfl, rfl⟩ rfl ?_
      change PQ _ _ _ mm_X12_isShelf 0 [.ref 46, .int x1] [] _ _ 0 0 _
      refine q_aload_n rfl rfl rfl ?_
      refine q_iload_n rfl rfl rfl ?_
      refine q_iconst rfl rfl ?_
      refine q_bipush rfl rfl ?_
      refine q_nV3 rfl rfl (Or.inl rfl) rfl rfl rfl (by decide) (FW_46 S hW) ⟨rfl, rfl⟩ rfl ?_
      change PQ _ _ _ mm_X12_in 0 [.ref 46, .int x1, .int 0, .int 7] [] _ _ 0 0 _
      refine q_iload_n rfl rfl rfl ?_
      refine q_iload_n rfl rfl rfl ?_
      refine q_iclt rfl rfl (fun c16 => absurd c16 (i_lt_f c10 rfl)) (fun c16 => ?_)
      refine q_iload_n rfl rfl rfl ?_
      refine q_iload_n rfl rfl rfl ?_
      refine q_icgt rfl rfl (fun c17 => ?_) (fun c17 => absurd (i_gt_t c10 rfl) c17)
      refine q_iconst rfl rfl ?_
      refine q_iret rfl rfl rfl ?_
      refine ⟨_, rfl, ?_⟩
      refine q_iret rfl rfl rfl ?_
      refine ⟨_, rfl, ?_⟩
      refine q_ifne rfl rfl (fun c18 => ?_) (fun c18 => absurd (by decide) c18)
      refine q_iconst rfl rfl ?_
      refine q_goto rfl ?_
      refine q_iret rfl rfl trivial ?_
      refine ⟨_, rfl, ?_⟩
      refine q_iret rfl rfl trivial ?_
      refine ⟨_, rfl, ?_⟩
      refine q_iceq rfl rfl (fun c19 => ?_) (fun c19 => absurd (by decide) c19)
      refine q_icc4 (z := 6) rfl rfl rfl rfl rfl ?_
      refine q_goto rfl ?_
      refine q_iload rfl rfl rfl ?_
      refine q_aload_nF rfl rfl rfl ?_
      refine q_alenX (x := 6) rfl rfl rfl ?_
      refine q_bipush rfl rfl ?_
      refine q_isub rfl rfl (q_tn (z := 0) rfl ?_)
      refine q_icgt rfl rfl (fun c20 => ?_) (fun c20 => absurd (by decide) c20)
      refine q_iconst rfl rfl ?_
      refine q_iret rfl rfl rfl ?_
      exact hK _ _
    · refine q_iconst rfl rfl ?_
      refine q_goto rfl ?_
      refine q_iret rfl rfl rfl ?_
      refine ⟨_, rfl, ?_⟩
      refine q_ifne rfl rfl (fun c21 => absurd c21 (by decide)) (fun c21 => ?_)
      refine q_aload_n rfl rfl rfl ?_
      refine q_getf rfl rfl (by decide) (FW_0 S hW) rfl ?_
      refine q_iload_n rfl rfl rfl ?_
      refine q_aald rfl rfl (by decide) (FW_43 S hW) (i_in (i_nlt c1) (i_ltle (i_nle c10) (B := 7) rfl) rfl) (q_tv (z := .null) rfl ?_)
      refine q_anl2n rfl rfl rfl rfl ?_
      refine q_aload_nN rfl rfl rfl ?_
      refine q_ifnonnullN rfl rfl ?_
      refine q_bipush rfl rfl ?_
      refine q_iret rfl rfl trivial ?_
      refine ⟨_, rfl, ?_⟩
      refine q_aload_n rfl rfl rfl ?_
      refine q_aload_nF rfl rfl rfl ?_
      refine q_iload rfl rfl rfl ?_
      refine q_iconst rfl rfl ?_
      refine q_iadd rfl rfl (q_tn (z := 1) rfl ?_)
      refine q_ialdX (x := x1) rfl rfl rfl hx1 ?_
      refine q_nV1 rfl rfl (Or.inl rfl) rfl rfl rfl (by decide) (FW_46 S hW) ⟨rfl, rfl⟩ rfl ?_
      change PQ _ _ _ mm_X12_toss 0 [.ref 46, .int x1] [] _ _ 0 0 _
      refine q_aload_n rfl rfl rfl ?_
      refine q_iload_n rfl rfl rfl ?_
      refine q_nV1 rfl rfl (Or.inl rfl) rfl rfl rfl (by decide) (FW_46 S hW) ⟨rfl, rfl⟩ rfl ?_
      change PQ _ _ _ mm_X12_lacksStatement 0 [.ref 46, .int x1] [] _ _ 0 0 _
      refine q_aload_n rfl rfl rfl ?_
      refine q_iload_n rfl rfl rfl ?_
      refine q_nV1 rfl rfl (Or.inl rfl) rfl rfl rfl (by decide) (FW_46 S hW) ⟨rfl, rfl⟩ rfl ?_
      change PQ _ _ _ mm_X12_isShelf 0 [.ref 46, .int x1] [] _ _ 0 0 _
      refine q_aload_n rfl rfl rfl ?_
      refine q_iload_n rfl rfl rfl ?_
      refine q_iconst rfl rfl ?_
      refine q_bipush rfl rfl ?_
      refine q_nV3 rfl rfl (Or.inl rfl) rfl rfl rfl (by decide) (FW_46 S hW) ⟨rfl, rfl⟩ rfl ?_
      change PQ _ _ _ mm_X12_in 0 [.ref 46, .int x1, .int 0, .int 7] [] _ _ 0 0 _
      refine q_iload_n rfl rfl rfl ?_
      refine q_iload_n rfl rfl rfl ?_
      refine q_iclt rfl rfl (fun c22 => absurd c22 (i_lt_f (i_nlt c1) rfl)) (fun c22 => ?_)
      refine q_iload_n rfl rfl rfl ?_
      refine q_iload_n rfl rfl rfl ?_
      refine q_icgt rfl rfl (fun c23 => absurd c23 (i_gt_f (i_ltle (i_nle c10) (B := 7) rfl) rfl)) (fun c23 => ?_)
      refine q_iconst rfl rfl ?_
      refine q_goto rfl ?_
      refine q_iret rfl rfl rfl ?_
      refine ⟨_, rfl, ?_⟩
      refine q_iret rfl rfl rfl ?_
      refine ⟨_, rfl, ?_⟩
      refine q_ifne rfl rfl (fun c24 => absurd c24 (by decide)) (fun c24 => ?_)
      refine q_aload_n rfl rfl rfl ?_
      refine q_getf rfl rfl (by decide) (FW_46 S hW) rfl ?_
      refine q_iload_n rfl rfl rfl ?_
      refine q_iald rfl rfl (by decide) (FW_75 S hW) (i_in (i_nlt c1) (i_ltle (i_nle c10) (B := 7) rfl) rfl) (q_tn (z := 0) rfl ?_)
      refine q_ifne rfl rfl (fun c25 => ?_) (fun c25 => absurd (by decide) c25)
      refine q_bipush rfl rfl ?_
      refine q_goto rfl ?_
      refine q_iret rfl rfl trivial ?_
      refine ⟨_, rfl, ?_⟩
      refine q_ifeq rfl rfl (fun c26 => absurd c26 (by decide)) (fun c26 => ?_)
      refine q_aload_n rfl rfl rfl ?_
      refine q_iload_n rfl rfl rfl ?_
      refine q_nV1 rfl rfl (Or.inl rfl) rfl rfl rfl (by decide) (FW_46 S hW) ⟨rfl, rfl⟩ rfl ?_
      change PQ _ _ _ mm_X12_lacksStatement 0 [.ref 46, .int x1] [] _ _ 0 0 _
      refine q_aload_n rfl rfl rfl ?_
      refine q_iload_n rfl rfl rfl ?_
      refine q_nV1 rfl rfl (Or.inl rfl) rfl rfl rfl (by decide) (FW_46 S hW) ⟨rfl, rfl⟩ rfl ?_
      change PQ _ _ _ mm_X12_isShelf 0 [.ref 46, .int x1] [] _ _ 0 0 _
      refine q_aload_n rfl rfl rfl ?_
      refine q_iload_n rfl rfl rfl ?_
      refine q_iconst rfl rfl ?_
      refine q_bipush rfl rfl ?_
      refine q_nV3 rfl rfl (Or.inl rfl) rfl rfl rfl (by decide) (FW_46 S hW) ⟨rfl, rfl⟩ rfl ?_
      change PQ _ _ _ mm_X12_in 0 [.ref 46, .int x1, .int 0, .int 7] [] _ _ 0 0 _
      refine q_iload_n rfl rfl rfl ?_
      refine q_iload_n rfl rfl rfl ?_
      refine q_iclt rfl rfl (fun c27 => absurd c27 (i_lt_f (i_nlt c1) rfl)) (fun c27 => ?_)
      refine q_iload_n rfl rfl rfl ?_
      refine q_iload_n rfl rfl rfl ?_
      refine q_icgt rfl rfl (fun c28 => absurd c28 (i_gt_f (i_ltle (i_nle c10) (B := 7) rfl) rfl)) (fun c28 => ?_)
      refine q_iconst rfl rfl ?_
      refine q_goto rfl ?_
      refine q_iret rfl rfl rfl ?_
      refine ⟨_, rfl, ?_⟩
      refine q_iret rfl rfl rfl ?_
      refine ⟨_, rfl, ?_⟩
      refine q_ifne rfl rfl (fun c29 => absurd c29 (by decide)) (fun c29 => ?_)
      refine q_aload_n rfl rfl rfl ?_
      refine q_getf rfl rfl (by decide) (FW_46 S hW) rfl ?_
      refine q_iload_n rfl rfl rfl ?_
      refine q_iald rfl rfl (by decide) (FW_75 S hW) (i_in (i_nlt c1) (i_ltle (i_nle c10) (B := 7) rfl) rfl) (q_tn (z := 0) rfl ?_)
      refine q_ifne rfl rfl (fun c30 => ?_) (fun c30 => absurd (by decide) c30)
      refine q_bipush rfl rfl ?_
      refine q_goto rfl ?_
      refine q_iret rfl rfl trivial ?_
      refine ⟨_, rfl, ?_⟩
      refine q_iret rfl rfl trivial ?_
      refine ⟨_, rfl, ?_⟩
      refine q_iceq rfl rfl (fun c31 => ?_) (fun c31 => absurd (by decide) c31)
      refine q_icc4 (z := 6) rfl rfl rfl rfl rfl ?_
      refine q_goto rfl ?_
      refine q_iload rfl rfl rfl ?_
      refine q_aload_nF rfl rfl rfl ?_
      refine q_alenX (x := 6) rfl rfl rfl ?_
      refine q_bipush rfl rfl ?_
      refine q_isub rfl rfl (q_tn (z := 0) rfl ?_)
      refine q_icgt rfl rfl (fun c32 => ?_) (fun c32 => absurd (by decide) c32)
      refine q_iconst rfl rfl ?_
      refine q_iret rfl rfl rfl ?_
      exact hK _ _
end TR
