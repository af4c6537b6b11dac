section FIN
variable {EX : pm_M → pm_C → (pm_C → Prop) → Prop} {xs : Nat → Int32} {K : q_K} {S : Nat → pm_E}
theorem t_len0 (hK : ∀ S n, K (some (.int 1)) S n) : PQ (j_SL 0) (j_SV xs) EX mm_L_law 23 [.float 5, .ref 0, .ref 46, .ref 81, .int 0, pm_un, pm_un, pm_un] [] S 82 82 190091 K := by
  refine q_iload rfl rfl rfl ?_
  refine q_aload_nF rfl rfl rfl ?_
  refine q_alenX (x := 0) rfl rfl rfl ?_
  refine q_bipush rfl rfl ?_
  refine q_isub rfl rfl (q_tn (z := (-6)) rfl ?_)
  refine q_icgt rfl rfl (fun c1 => ?_) (fun c1 => absurd (by decide) c1)
  refine q_iconst rfl rfl ?_
  refine q_iret rfl rfl rfl ?_
  exact hK _ _
theorem t_len1 (hK : ∀ S n, K (some (.int 1)) S n) : PQ (j_SL 1) (j_SV xs) EX mm_L_law 23 [.float 5, .ref 0, .ref 46, .ref 81, .int 0, pm_un, pm_un, pm_un] [] S 82 82 190091 K := by
  refine q_iload rfl rfl rfl ?_
  refine q_aload_nF rfl rfl rfl ?_
  refine q_alenX (x := 1) rfl rfl rfl ?_
  refine q_bipush rfl rfl ?_
  refine q_isub rfl rfl (q_tn (z := (-5)) rfl ?_)
  refine q_icgt rfl rfl (fun c1 => ?_) (fun c1 => absurd (by decide) c1)
  refine q_iconst rfl rfl ?_
  refine q_iret rfl rfl rfl ?_
  exact hK _ _
theorem t_len2 (hK : ∀ S n, K (some (.int 1)) S n) : PQ (j_SL 2) (j_SV xs) EX mm_L_law 23 [.float 5, .ref 0, .ref 46, .ref 81, .int 0, pm_un, pm_un, pm_un] [] S 82 82 190091 K := by
  refine q_iload rfl rfl rfl ?_
  refine q_aload_nF rfl rfl rfl ?_
  refine q_alenX (x := 2) rfl rfl rfl ?_
  refine q_bipush rfl rfl ?_
  refine q_isub rfl rfl (q_tn (z := (-4)) rfl ?_)
  refine q_icgt rfl rfl (fun c1 => ?_) (fun c1 => absurd (by decide) c1)
  refine q_iconst rfl rfl ?_
  refine q_iret rfl rfl rfl ?_
  exact hK _ _
theorem t_len3 (hK : ∀ S n, K (some (.int 1)) S n) : PQ (j_SL 3) (j_SV xs) EX mm_L_law 23 [.float 5, .ref 0, .ref 46, .ref 81, .int 0, pm_un, pm_un, pm_un] [] S 82 82 190091 K := by
  refine q_iload rfl rfl rfl ?_
  refine q_aload_nF rfl rfl rfl ?_
  refine q_alenX (x := 3) rfl rfl rfl ?_
  refine q_bipush rfl rfl ?_
  refine q_isub rfl rfl (q_tn (z := (-3)) rfl ?_)
  refine q_icgt rfl rfl (fun c1 => ?_) (fun c1 => absurd (by decide) c1)
  refine q_iconst rfl rfl ?_
  refine q_iret rfl rfl rfl ?_
  exact hK _ _
theorem t_len4 (hK : ∀ S n, K (some (.int 1)) S n) : PQ (j_SL 4) (j_SV xs) EX mm_L_law 23 [.float 5, .ref 0, .ref 46, .ref 81, .int 0, pm_un, pm_un, pm_un] [] S 82 82 190091 K := by
  refine q_iload rfl rfl rfl ?_
  refine q_aload_nF rfl rfl rfl ?_
  refine q_alenX (x := 4) rfl rfl rfl ?_
  refine q_bipush rfl rfl ?_
  refine q_isub rfl rfl (q_tn (z := (-2)) rfl ?_)
  refine q_icgt rfl rfl (fun c1 => ?_) (fun c1 => absurd (by decide) c1)
  refine q_iconst rfl rfl ?_
  refine q_iret rfl rfl rfl ?_
  exact hK _ _
theorem t_len5 (hK : ∀ S n, K (some (.int 1)) S n) : PQ (j_SL 5) (j_SV xs) EX mm_L_law 23 [.float 5, .ref 0, .ref 46, .ref 81, .int 0, pm_un, pm_un, pm_un] [] S 82 82 190091 K := by
  refine q_iload rfl rfl rfl ?_
  refine q_aload_nF rfl rfl rfl ?_
  refine q_alenX (x := 5) rfl rfl rfl ?_
  refine q_bipush rfl rfl ?_
  refine q_isub rfl rfl (q_tn (z := (-1)) rfl ?_)
  refine q_icgt rfl rfl (fun c1 => ?_) (fun c1 => absurd (by decide) c1)
  refine q_iconst rfl rfl ?_
  refine q_iret rfl rfl rfl ?_
  exact hK _ _
end FIN
section FIN2
variable {xs : Nat → Int32} {K : q_K} {S : Nat → pm_E}
theorem t_sw0 (hW : FW S) (hK : ∀ S n, K (some (.int 1)) S n) : PQ (j_SL 6) (j_SV xs) j_EX mm_L_law 40 [.float 5, .ref 0, .ref 46, .ref 81, .int 0, pm_un, pm_un, pm_un] [.int 0] S 82 82 190091 K := by
  refine q_switch (q := 172) rfl rfl ?_
  exact t_op0 hW rfl rfl rfl rfl rfl hK
theorem t_sw1 (hW : FW S) (hK : ∀ S n, K (some (.int 1)) S n) : PQ (j_SL 6) (j_SV xs) j_EX mm_L_law 40 [.float 5, .ref 0, .ref 46, .ref 81, .int 0, pm_un, pm_un, pm_un] [.int 1] S 82 82 190091 K := by
  refine q_switch (q := 197) rfl rfl ?_
  exact t_op1 hW rfl rfl rfl rfl rfl hK
theorem t_sw2 (hW : FW S) (hK : ∀ S n, K (some (.int 1)) S n) : PQ (j_SL 6) (j_SV xs) j_EX mm_L_law 40 [.float 5, .ref 0, .ref 46, .ref 81, .int 0, pm_un, pm_un, pm_un] [.int 2] S 82 82 190091 K := by
  refine q_switch (q := 258) rfl rfl ?_
  exact t_op2 hW rfl rfl rfl rfl rfl hK
theorem t_sw3 (hW : FW S) (hK : ∀ S n, K (some (.int 1)) S n) : PQ (j_SL 6) (j_SV xs) j_EX mm_L_law 40 [.float 5, .ref 0, .ref 46, .ref 81, .int 0, pm_un, pm_un, pm_un] [.int 3] S 82 82 190091 K := by
  refine q_switch (q := 283) rfl rfl ?_
  exact t_op3 hW rfl rfl rfl rfl rfl hK
theorem t_sw4 (hW : FW S) (hK : ∀ S n, K (some (.int 1)) S n) : PQ (j_SL 6) (j_SV xs) j_EX mm_L_law 40 [.float 5, .ref 0, .ref 46, .ref 81, .int 0, pm_un, pm_un, pm_un] [.int 4] S 82 82 190091 K := by
  refine q_switch (q := 320) rfl rfl ?_
  exact t_op4 hW rfl rfl rfl rfl rfl hK
theorem t_sw5 (hW : FW S) (hK : ∀ S n, K (some (.int 1)) S n) : PQ (j_SL 6) (j_SV xs) j_EX mm_L_law 40 [.float 5, .ref 0, .ref 46, .ref 81, .int 0, pm_un, pm_un, pm_un] [.int 5] S 82 82 190091 K := by
  refine q_switch (q := 369) rfl rfl ?_
  exact t_op5 hW rfl rfl rfl rfl rfl hK
theorem t_sw6 (hW : FW S) (hK : ∀ S n, K (some (.int 1)) S n) : PQ (j_SL 6) (j_SV xs) j_EX mm_L_law 40 [.float 5, .ref 0, .ref 46, .ref 81, .int 0, pm_un, pm_un, pm_un] [.int 6] S 82 82 190091 K := by
  refine q_switch (q := 382) rfl rfl ?_
  exact t_op6 hW rfl rfl rfl rfl rfl hK
theorem t_sw7 (hW : FW S) (hK : ∀ S n, K (some (.int 1)) S n) : PQ (j_SL 6) (j_SV xs) j_EX mm_L_law 40 [.float 5, .ref 0, .ref 46, .ref 81, .int 0, pm_un, pm_un, pm_un] [.int 7] S 82 82 190091 K := by
  refine q_switch (q := 407) rfl rfl ?_
  exact t_op7 hW rfl rfl rfl rfl rfl hK
theorem t_sw8 (hW : FW S) (hK : ∀ S n, K (some (.int 1)) S n) : PQ (j_SL 6) (j_SV xs) j_EX mm_L_law 40 [.float 5, .ref 0, .ref 46, .ref 81, .int 0, pm_un, pm_un, pm_un] [.int 8] S 82 82 190091 K := by
  refine q_switch (q := 444) rfl rfl ?_
  exact t_op8 hW rfl rfl rfl rfl rfl hK
theorem t_sw9 (hW : FW S) (hK : ∀ S n, K (some (.int 1)) S n) : PQ (j_SL 6) (j_SV xs) j_EX mm_L_law 40 [.float 5, .ref 0, .ref 46, .ref 81, .int 0, pm_un, pm_un, pm_un] [.int 9] S 82 82 190091 K := by
  refine q_switch (q := 469) rfl rfl ?_
  exact t_op9 hW rfl rfl rfl rfl rfl hK
theorem t_sw10 (hW : FW S) (hK : ∀ S n, K (some (.int 1)) S n) : PQ (j_SL 6) (j_SV xs) j_EX mm_L_law 40 [.float 5, .ref 0, .ref 46, .ref 81, .int 0, pm_un, pm_un, pm_un] [.int 10] S 82 82 190091 K := by
  refine q_switch (q := 494) rfl rfl ?_
  exact t_op10 hW rfl rfl rfl rfl rfl hK
theorem t_sw11 (hW : FW S) (hK : ∀ S n, K (some (.int 1)) S n) : PQ (j_SL 6) (j_SV xs) j_EX mm_L_law 40 [.float 5, .ref 0, .ref 46, .ref 81, .int 0, pm_un, pm_un, pm_un] [.int 11] S 82 82 190091 K := by
  refine q_switch (q := 531) rfl rfl ?_
  exact t_op11 hW rfl rfl rfl rfl rfl hK
theorem t_sw12 (hW : FW S) (hK : ∀ S n, K (some (.int 1)) S n) : PQ (j_SL 6) (j_SV xs) j_EX mm_L_law 40 [.float 5, .ref 0, .ref 46, .ref 81, .int 0, pm_un, pm_un, pm_un] [.int 12] S 82 82 190091 K := by
  refine q_switch (q := 556) rfl rfl ?_
  exact t_op12 hW rfl rfl rfl rfl rfl hK
theorem t_sw13 (hW : FW S) (hK : ∀ S n, K (some (.int 1)) S n) : PQ (j_SL 6) (j_SV xs) j_EX mm_L_law 40 [.float 5, .ref 0, .ref 46, .ref 81, .int 0, pm_un, pm_un, pm_un] [.int 13] S 82 82 190091 K := by
  refine q_switch (q := 593) rfl rfl ?_
  exact t_op13 hW rfl rfl rfl rfl rfl hK
theorem t_sw14 (hW : FW S) (hK : ∀ S n, K (some (.int 1)) S n) : PQ (j_SL 6) (j_SV xs) j_EX mm_L_law 40 [.float 5, .ref 0, .ref 46, .ref 81, .int 0, pm_un, pm_un, pm_un] [.int 14] S 82 82 190091 K := by
  refine q_switch (q := 618) rfl rfl ?_
  exact t_op14 hW rfl rfl rfl rfl rfl hK
theorem t_sw15 (hW : FW S) (hK : ∀ S n, K (some (.int 1)) S n) : PQ (j_SL 6) (j_SV xs) j_EX mm_L_law 40 [.float 5, .ref 0, .ref 46, .ref 81, .int 0, pm_un, pm_un, pm_un] [.int 15] S 82 82 190091 K := by
  refine q_switch (q := 655) rfl rfl ?_
  exact t_op15 hW rfl rfl rfl rfl rfl hK
theorem t_sw16 (hW : FW S) (hK : ∀ S n, K (some (.int 1)) S n) : PQ (j_SL 6) (j_SV xs) j_EX mm_L_law 40 [.float 5, .ref 0, .ref 46, .ref 81, .int 0, pm_un, pm_un, pm_un] [.int 16] S 82 82 190091 K := by
  refine q_switch (q := 716) rfl rfl ?_
  exact t_op16 hW rfl rfl rfl rfl rfl hK
theorem t_sw17 (hW : FW S) (hK : ∀ S n, K (some (.int 1)) S n) : PQ (j_SL 6) (j_SV xs) j_EX mm_L_law 40 [.float 5, .ref 0, .ref 46, .ref 81, .int 0, pm_un, pm_un, pm_un] [.int 17] S 82 82 190091 K := by
  refine q_switch (q := 765) rfl rfl ?_
  exact t_op17 hW rfl rfl rfl rfl rfl hK
theorem t_sw18 (hW : FW S) (hK : ∀ S n, K (some (.int 1)) S n) : PQ (j_SL 6) (j_SV xs) j_EX mm_L_law 40 [.float 5, .ref 0, .ref 46, .ref 81, .int 0, pm_un, pm_un, pm_un] [.int 18] S 82 82 190091 K := by
  refine q_switch (q := 814) rfl rfl ?_
  exact t_op18 hW rfl rfl rfl rfl rfl hK
theorem t_sw19 (hW : FW S) (hK : ∀ S n, K (some (.int 1)) S n) : PQ (j_SL 6) (j_SV xs) j_EX mm_L_law 40 [.float 5, .ref 0, .ref 46, .ref 81, .int 0, pm_un, pm_un, pm_un] [.int 19] S 82 82 190091 K := by
  refine q_switch (q := 851) rfl rfl ?_
  exact t_op19 hW rfl rfl rfl rfl rfl hK
theorem t_sw20 (hW : FW S) (hK : ∀ S n, K (some (.int 1)) S n) : PQ (j_SL 6) (j_SV xs) j_EX mm_L_law 40 [.float 5, .ref 0, .ref 46, .ref 81, .int 0, pm_un, pm_un, pm_un] [.int 20] S 82 82 190091 K := by
  refine q_switch (q := 916) rfl rfl ?_
  exact t_op20 hW rfl rfl rfl rfl rfl hK
theorem t_sw21 (hW : FW S) (hK : ∀ S n, K (some (.int 1)) S n) : PQ (j_SL 6) (j_SV xs) j_EX mm_L_law 40 [.float 5, .ref 0, .ref 46, .ref 81, .int 0, pm_un, pm_un, pm_un] [.int 21] S 82 82 190091 K := by
  refine q_switch (q := 941) rfl rfl ?_
  exact t_op21 hW rfl rfl rfl rfl rfl hK
theorem t_sw22 (hW : FW S) (hK : ∀ S n, K (some (.int 1)) S n) : PQ (j_SL 6) (j_SV xs) j_EX mm_L_law 40 [.float 5, .ref 0, .ref 46, .ref 81, .int 0, pm_un, pm_un, pm_un] [.int 22] S 82 82 190091 K := by
  refine q_switch (q := 954) rfl rfl ?_
  exact t_op22 hW rfl rfl rfl rfl rfl hK
theorem t_sw23 (hW : FW S) (hK : ∀ S n, K (some (.int 1)) S n) : PQ (j_SL 6) (j_SV xs) j_EX mm_L_law 40 [.float 5, .ref 0, .ref 46, .ref 81, .int 0, pm_un, pm_un, pm_un] [.int 23] S 82 82 190091 K := by
  refine q_switch (q := 967) rfl rfl ?_
  exact t_op23 hW rfl rfl rfl rfl rfl hK
theorem t_sw24 (hW : FW S) (hK : ∀ S n, K (some (.int 1)) S n) : PQ (j_SL 6) (j_SV xs) j_EX mm_L_law 40 [.float 5, .ref 0, .ref 46, .ref 81, .int 0, pm_un, pm_un, pm_un] [.int 24] S 82 82 190091 K := by
  refine q_switch (q := 1028) rfl rfl ?_
  exact t_op24 hW rfl rfl rfl rfl rfl hK
theorem t_sw25 (hW : FW S) (hK : ∀ S n, K (some (.int 1)) S n) : PQ (j_SL 6) (j_SV xs) j_EX mm_L_law 40 [.float 5, .ref 0, .ref 46, .ref 81, .int 0, pm_un, pm_un, pm_un] [.int 25] S 82 82 190091 K := by
  refine q_switch (q := 1077) rfl rfl ?_
  exact t_op25 hW rfl rfl rfl rfl rfl hK
theorem t_sw26 (hW : FW S) (hK : ∀ S n, K (some (.int 1)) S n) : PQ (j_SL 6) (j_SV xs) j_EX mm_L_law 40 [.float 5, .ref 0, .ref 46, .ref 81, .int 0, pm_un, pm_un, pm_un] [.int 26] S 82 82 190091 K := by
  refine q_switch (q := 1144) rfl rfl ?_
  exact t_op26 hW rfl rfl rfl rfl rfl hK
theorem t_sw27 (hW : FW S) (hK : ∀ S n, K (some (.int 1)) S n) : PQ (j_SL 6) (j_SV xs) j_EX mm_L_law 40 [.float 5, .ref 0, .ref 46, .ref 81, .int 0, pm_un, pm_un, pm_un] [.int 27] S 82 82 190091 K := by
  refine q_switch (q := 1217) rfl rfl ?_
  exact t_op27 hW rfl rfl rfl rfl rfl hK
theorem t_sw28 (hW : FW S) (hK : ∀ S n, K (some (.int 1)) S n) : PQ (j_SL 6) (j_SV xs) j_EX mm_L_law 40 [.float 5, .ref 0, .ref 46, .ref 81, .int 0, pm_un, pm_un, pm_un] [.int 28] S 82 82 190091 K := by
  refine q_switch (q := 1242) rfl rfl ?_
  exact t_op28 hW rfl rfl rfl rfl rfl hK
theorem t_sw29 (hW : FW S) (hK : ∀ S n, K (some (.int 1)) S n) : PQ (j_SL 6) (j_SV xs) j_EX mm_L_law 40 [.float 5, .ref 0, .ref 46, .ref 81, .int 0, pm_un, pm_un, pm_un] [.int 29] S 82 82 190091 K := by
  refine q_switch (q := 1267) rfl rfl ?_
  refine q_icc4 (z := 6) rfl rfl rfl rfl rfl ?_
  refine q_goto rfl ?_
  refine q_iload rfl rfl rfl ?_
  refine q_aload_nF rfl rfl rfl ?_
  refine q_alenX (x := 6) rfl rfl rfl ?_
  refine q_bipush rfl rfl ?_
  refine q_isub rfl rfl (q_tn (z := 0) rfl ?_)
  refine q_icgt rfl rfl (fun c1 => ?_) (fun c1 => absurd (by decide) c1)
  refine q_iconst rfl rfl ?_
  refine q_iret rfl rfl rfl ?_
  exact hK _ _
theorem t_sw30 (hW : FW S) (hK : ∀ S n, K (some (.int 1)) S n) : PQ (j_SL 6) (j_SV xs) j_EX mm_L_law 40 [.float 5, .ref 0, .ref 46, .ref 81, .int 0, pm_un, pm_un, pm_un] [.int 30] S 82 82 190091 K := by
  refine q_switch (q := 1267) rfl rfl ?_
  refine q_icc4 (z := 6) rfl rfl rfl rfl rfl ?_
  refine q_goto rfl ?_
  refine q_iload rfl rfl rfl ?_
  refine q_aload_nF rfl rfl rfl ?_
  refine q_alenX (x := 6) rfl rfl rfl ?_
  refine q_bipush rfl rfl ?_
  refine q_isub rfl rfl (q_tn (z := 0) rfl ?_)
  refine q_icgt rfl rfl (fun c1 => ?_) (fun c1 => absurd (by decide) c1)
  refine q_iconst rfl rfl ?_
  refine q_iret rfl rfl rfl ?_
  exact hK _ _
theorem t_sw31 (hW : FW S) (hK : ∀ S n, K (some (.int 1)) S n) : PQ (j_SL 6) (j_SV xs) j_EX mm_L_law 40 [.float 5, .ref 0, .ref 46, .ref 81, .int 0, pm_un, pm_un, pm_un] [.int 31] S 82 82 190091 K := by
  refine q_switch (q := 1267) rfl rfl ?_
  refine q_icc4 (z := 6) rfl rfl rfl rfl rfl ?_
  refine q_goto rfl ?_
  refine q_iload rfl rfl rfl ?_
  refine q_aload_nF rfl rfl rfl ?_
  refine q_alenX (x := 6) rfl rfl rfl ?_
  refine q_bipush rfl rfl ?_
  refine q_isub rfl rfl (q_tn (z := 0) rfl ?_)
  refine q_icgt rfl rfl (fun c1 => ?_) (fun c1 => absurd (by decide) c1)
  refine q_iconst rfl rfl ?_
  refine q_iret rfl rfl rfl ?_
  exact hK _ _
theorem t_len6 (hW : FW S) (hK : ∀ S n, K (some (.int 1)) S n) : PQ (j_SL 6) (j_SV xs) j_EX mm_L_law 23 [.float 5, .ref 0, .ref 46, .ref 81, .int 0, pm_un, pm_un, pm_un] [] S 82 82 190091 K := by
  obtain ⟨x0, hx0⟩ : ∃ x0, xs 0 = x0 := ⟨_, rfl⟩
  refine q_iload rfl rfl rfl ?_
  refine q_aload_nF rfl rfl rfl ?_
  refine q_alenX (x := 6) rfl rfl rfl ?_
  refine q_bipush rfl rfl ?_
  refine q_isub rfl rfl (q_tn (z := 0) rfl ?_)
  refine q_icgt rfl rfl (fun c1 => absurd c1 (by decide)) (fun c1 => ?_)
  refine q_aload_nF rfl rfl rfl ?_
  refine q_iload rfl rfl rfl ?_
  refine q_ialdX (x := x0) rfl rfl rfl hx0 ?_
  refine q_bipush rfl rfl ?_
  obtain ⟨j, hj, e⟩ := pk_andE x0 (m := 31) 5 rfl
  refine q_iand rfl rfl (q_tn (z := nI j) e ?_)
  match j, hj with
  | 0, _ => exact t_sw0 hW hK
  | 1, _ => exact t_sw1 hW hK
  | 2, _ => exact t_sw2 hW hK
  | 3, _ => exact t_sw3 hW hK
  | 4, _ => exact t_sw4 hW hK
  | 5, _ => exact t_sw5 hW hK
  | 6, _ => exact t_sw6 hW hK
  | 7, _ => exact t_sw7 hW hK
  | 8, _ => exact t_sw8 hW hK
  | 9, _ => exact t_sw9 hW hK
  | 10, _ => exact t_sw10 hW hK
  | 11, _ => exact t_sw11 hW hK
  | 12, _ => exact t_sw12 hW hK
  | 13, _ => exact t_sw13 hW hK
  | 14, _ => exact t_sw14 hW hK
  | 15, _ => exact t_sw15 hW hK
  | 16, _ => exact t_sw16 hW hK
  | 17, _ => exact t_sw17 hW hK
  | 18, _ => exact t_sw18 hW hK
  | 19, _ => exact t_sw19 hW hK
  | 20, _ => exact t_sw20 hW hK
  | 21, _ => exact t_sw21 hW hK
  | 22, _ => exact t_sw22 hW hK
  | 23, _ => exact t_sw23 hW hK
  | 24, _ => exact t_sw24 hW hK
  | 25, _ => exact t_sw25 hW hK
  | 26, _ => exact t_sw26 hW hK
  | 27, _ => exact t_sw27 hW hK
  | 28, _ => exact t_sw28 hW hK
  | 29, _ => exact t_sw29 hW hK
  | 30, _ => exact t_sw30 hW hK
  | 31, _ => exact t_sw31 hW hK
  | j + 32, h => omega
theorem p_claim (L : Nat) (xs : Nat → Int32) (hL : L ≤ 6) : pm_W j_ft j_df (j_SL L) (j_SV xs) j_MT j_EX mm_L_law (0, pm_en 8 [.float 5], [], [], 0, 0) (fun r _ => r = some (.int 1)) := by
  have key : PQ (j_SL L) (j_SV xs) j_EX mm_L_law 0 [.float 5, pm_un, pm_un, pm_un, pm_un, pm_un, pm_un, pm_un] [] (fun _ => .inr (99, [])) 0 0 0 (fun r _ _ => r = some (.int 1)) := by
    refine t_init (fun S hW => ?_)
    match L, hL with
    | 0, _ => exact t_len0 (fun _ _ => rfl)
    | 1, _ => exact t_len1 (fun _ _ => rfl)
    | 2, _ => exact t_len2 (fun _ _ => rfl)
    | 3, _ => exact t_len3 (fun _ _ => rfl)
    | 4, _ => exact t_len4 (fun _ _ => rfl)
    | 5, _ => exact t_len5 (fun _ _ => rfl)
    | 6, _ => exact t_len6 hW (fun _ _ => rfl)
    | L + 7, h => omega
  unfold PQ at key
  exact pm_W_mono _ _ _ _ _ _ key (fun r h' => by rintro ⟨S', n', -, e⟩; exact e)
end FIN2
