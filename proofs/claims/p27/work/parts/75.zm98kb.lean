variable {θ : Th}
/-! the contracts for the run's parts: printed by wip/ck/gen_kb.py -/
section KB
variable {P : PG} {L : Nat} {xs : Nat → Int32}
theorem wd82 : ck_Val jgc (XY θ P) j_ft j_df (j_SL L) (j_SV xs) j_MT j_EX kc82 mm_X11_states := wd_of wb82 rfl
theorem wd11 : ck_Val jgc (XY θ P) j_ft j_df (j_SL L) (j_SV xs) j_MT j_EX kc11 mm_X11_within := wd_of wb11 rfl
theorem wd13 : ck_Val jgc (XY θ P) j_ft j_df (j_SL L) (j_SV xs) j_MT j_EX kc13 mm_X11_within := wd_of wb13 rfl
theorem wd15 : ck_Val jgc (XY θ P) j_ft j_df (j_SL L) (j_SV xs) j_MT j_EX kc15 mm_X11_within := wd_of wb15 rfl
theorem wd22 : ck_Val jgc (XY θ P) j_ft j_df (j_SL L) (j_SV xs) j_MT j_EX kc22 mm_X11_within := wd_of wb22 rfl
theorem wd60 : ck_Val jgc (XY θ P) j_ft j_df (j_SL L) (j_SV xs) j_MT j_EX kc60 mm_X11_within := wd_of wb60 rfl
theorem wd89 : ck_Val jgc (XY θ P) j_ft j_df (j_SL L) (j_SV xs) j_MT j_EX kc89 mm_X11_within := wd_of wb89 rfl
theorem wd87 : ck_Val jgc (XY θ P) j_ft j_df (j_SL L) (j_SV xs) j_MT j_EX kc87 mm_X11_within := wd_of wb87 rfl
theorem wd81 : ck_Val jgc (XY θ P) j_ft j_df (j_SL L) (j_SV xs) j_MT j_EX kc81 mm_X11_sizeOf := wd_of wb81 rfl
theorem wd93 : ck_Val jgc (XY θ P) j_ft j_df (j_SL L) (j_SV xs) j_MT j_EX kc93 mm_X7_sortOf := wd_of (wc_of w93 rfl) rfl
theorem wd91 : ck_Val jgc (XY θ P) j_ft j_df (j_SL L) (j_SV xs) j_MT j_EX kc91 mm_X5_find := wd_of (wc_of w91 rfl) rfl
theorem wd92 : ck_Val jgc (XY θ P) j_ft j_df (j_SL L) (j_SV xs) j_MT j_EX kc92 mm_X5_comesBack := wd_of (wc_of w92 rfl) rfl
theorem ktd94 : ck_meth jgc jrl j_ft jfa j_MT mm_X11_isOfSort [] [(72, kc93), (37, kc91), (36, kc92)] kc94 kq94 4000 1 = true := by decide +kernel
theorem wd94 : ck_Val jgc (XY θ P) j_ft j_df (j_SL L) (j_SV xs) j_MT j_EX kc94 mm_X11_isOfSort := ck_meth_ok o_HH0 jc_xs jc_RL j_FA (ck_cvc rfl wd93 (ck_cvc rfl wd91 (ck_cvc rfl wd92 ck_cvn))) ktd94
theorem ktd95 : ck_meth jgc jrl j_ft jfa j_MT mm_X11_count [] [(135, kc11), (135, kc13), (135, kc15), (135, kc22), (135, kc60), (135, kc89), (135, kc87), (116, kc81), (114, kc94)] kc95 kq95 4000 2001 = true := by decide +kernel
theorem wd95 : ck_Val jgc (XY θ P) j_ft j_df (j_SL L) (j_SV xs) j_MT j_EX kc95 mm_X11_count := ck_meth_ok o_HH0 jc_xs jc_RL j_FA (ck_cvc rfl wd11 (ck_cvc rfl wd13 (ck_cvc rfl wd15 (ck_cvc rfl wd22 (ck_cvc rfl wd60 (ck_cvc rfl wd89 (ck_cvc rfl wd87 (ck_cvc rfl wd81 (ck_cvc rfl wd94 ck_cvn))))))))) ktd95
theorem ktd96 : ck_meth jgc jrl j_ft jfa j_MT mm_X11_nth [] [(135, kc11), (135, kc13), (135, kc15), (135, kc22), (135, kc60), (135, kc89), (135, kc87), (116, kc81), (114, kc94)] kc96 kq96 4000 2001 = true := by decide +kernel
theorem wd96 : ck_Val jgc (XY θ P) j_ft j_df (j_SL L) (j_SV xs) j_MT j_EX kc96 mm_X11_nth := ck_meth_ok o_HH0 jc_xs jc_RL j_FA (ck_cvc rfl wd11 (ck_cvc rfl wd13 (ck_cvc rfl wd15 (ck_cvc rfl wd22 (ck_cvc rfl wd60 (ck_cvc rfl wd89 (ck_cvc rfl wd87 (ck_cvc rfl wd81 (ck_cvc rfl wd94 ck_cvn))))))))) ktd96
theorem wd99 : ck_Val jgc (XY θ P) j_ft j_df (j_SL L) (j_SV xs) j_MT j_EX kc99 mm_X11_way := wd_of wb99 rfl
theorem wd101 : ck_Val jgc (XY θ P) j_ft j_df (j_SL L) (j_SV xs) j_MT j_EX kc101 mm_X11_step := wd_of wb101 rfl
theorem wd107 : ck_Val jgc (XY θ P) j_ft j_df (j_SL L) (j_SV xs) j_MT j_EX kc107 mm_X11_race := wd_of wb107 rfl
theorem wd108 : ck_Val jgc (XY θ P) j_ft j_df (j_SL L) (j_SV xs) j_MT j_EX kc108 mm_X11_always := wd_of wb108 rfl
theorem wd110 : ck_Val jgc (XY θ P) j_ft j_df (j_SL L) (j_SV xs) j_MT j_EX kc110 mm_X11_can := wd_of wb110 rfl
theorem wd144 : ck_Val jgc (XY θ P) j_ft j_df (j_SL L) (j_SV xs) j_MT j_EX kc144 mm_X11_fix := wd_of wb144 rfl
theorem wd154 : ck_Val jgc (XY θ P) j_ft j_df (j_SL L) (j_SV xs) j_MT j_EX kc154 mm_X11_cost := wd_of wb154 rfl
theorem wd156 : ck_Val jgc (XY θ P) j_ft j_df (j_SL L) (j_SV xs) j_MT j_EX kc156 mm_X11_explain := wd_of wb156 rfl
theorem wd160 : ck_Val jgc (XY θ P) j_ft j_df (j_SL L) (j_SV xs) j_MT j_EX kc160 mm_X11_next := wd_of wb160 rfl
theorem wd202 : ck_Val jgc (XY θ P) j_ft j_df (j_SL L) (j_SV xs) j_MT j_EX kc202 mm_X12_states := wd_of wb202 rfl
theorem wd205 : ck_Val jgc (XY θ P) j_ft j_df (j_SL L) (j_SV xs) j_MT j_EX kc205 mm_X12_count := wd_of wb205 rfl
theorem wd206 : ck_Val jgc (XY θ P) j_ft j_df (j_SL L) (j_SV xs) j_MT j_EX kc206 mm_X12_nth := wd_of wb206 rfl
theorem wd208 : ck_Val jgc (XY θ P) j_ft j_df (j_SL L) (j_SV xs) j_MT j_EX kc208 mm_X12_way := wd_of wb208 rfl
theorem wd211 : ck_Val jgc (XY θ P) j_ft j_df (j_SL L) (j_SV xs) j_MT j_EX kc211 mm_X12_race := wd_of wb211 rfl
theorem wd212 : ck_Val jgc (XY θ P) j_ft j_df (j_SL L) (j_SV xs) j_MT j_EX kc212 mm_X12_always := wd_of wb212 rfl
theorem wd213 : ck_Val jgc (XY θ P) j_ft j_df (j_SL L) (j_SV xs) j_MT j_EX kc213 mm_X12_can := wd_of wb213 rfl
theorem wd264 : ck_Val jgc (XY θ P) j_ft j_df (j_SL L) (j_SV xs) j_MT j_EX kc264 mm_X12_fix := wd_of wb264 rfl
theorem wd270 : ck_Val jgc (XY θ P) j_ft j_df (j_SL L) (j_SV xs) j_MT j_EX kc270 mm_X12_cost := wd_of wb270 rfl
theorem wd272 : ck_Val jgc (XY θ P) j_ft j_df (j_SL L) (j_SV xs) j_MT j_EX kc272 mm_X12_explain := wd_of wb272 rfl
theorem wd273 : ck_Val jgc (XY θ P) j_ft j_df (j_SL L) (j_SV xs) j_MT j_EX kc273 mm_X12_next := wd_of wb273 rfl
theorem wd_step0 : ck_Val jgc (XY θ P) j_ft j_df (j_SL L) (j_SV xs) j_MT j_EX kh_step0 mm_X12_step := wd_of wb_step0 rfl
end KB
