variable {θ : Th}
/-! the contracts for count and nth: printed by wip/ck/gen_ob.py -/
section OB
variable {P : PG} {L : Nat} {xs : Nat → Int32}
theorem we82 : ck_Val jgd (XZ θ P) j_ft j_df (j_SL L) (j_SV xs) j_MT j_EX kc82 mm_X11_states := we_of wb82 rfl
theorem we99 : ck_Val jgd (XZ θ P) j_ft j_df (j_SL L) (j_SV xs) j_MT j_EX kc99 mm_X11_way := we_of wb99 rfl
theorem we101 : ck_Val jgd (XZ θ P) j_ft j_df (j_SL L) (j_SV xs) j_MT j_EX kc101 mm_X11_step := we_of wb101 rfl
theorem we107 : ck_Val jgd (XZ θ P) j_ft j_df (j_SL L) (j_SV xs) j_MT j_EX kc107 mm_X11_race := we_of wb107 rfl
theorem we108 : ck_Val jgd (XZ θ P) j_ft j_df (j_SL L) (j_SV xs) j_MT j_EX kc108 mm_X11_always := we_of wb108 rfl
theorem we110 : ck_Val jgd (XZ θ P) j_ft j_df (j_SL L) (j_SV xs) j_MT j_EX kc110 mm_X11_can := we_of wb110 rfl
theorem we144 : ck_Val jgd (XZ θ P) j_ft j_df (j_SL L) (j_SV xs) j_MT j_EX kc144 mm_X11_fix := we_of wb144 rfl
theorem we154 : ck_Val jgd (XZ θ P) j_ft j_df (j_SL L) (j_SV xs) j_MT j_EX kc154 mm_X11_cost := we_of wb154 rfl
theorem we156 : ck_Val jgd (XZ θ P) j_ft j_df (j_SL L) (j_SV xs) j_MT j_EX kc156 mm_X11_explain := we_of wb156 rfl
theorem we160 : ck_Val jgd (XZ θ P) j_ft j_df (j_SL L) (j_SV xs) j_MT j_EX kc160 mm_X11_next := we_of wb160 rfl
theorem we7 : ck_Val jgd (XZ θ P) j_ft j_df (j_SL L) (j_SV xs) j_MT j_EX kc7 mm_X6_first := we_of wb7 rfl
theorem kte30 : ck_meth jgd jrl j_ft jfa j_MT mm_X11_movedRunTo [] [] kc30 kq30 4000 1 = true := by decide +kernel
theorem we30 : ck_Val jgd (XZ θ P) j_ft j_df (j_SL L) (j_SV xs) j_MT j_EX kc30 mm_X11_movedRunTo := ck_meth_ok o_HH0 jd_xs jd_RL j_FA ck_cvn kte30
theorem kte31 : ck_meth jgd jrl j_ft jfa j_MT mm_X11_start [] [(43, kc7), (104, kc30)] kc31 kq31 4000 1 = true := by decide +kernel
theorem we31 : ck_Val jgd (XZ θ P) j_ft j_df (j_SL L) (j_SV xs) j_MT j_EX kc31 mm_X11_start := ck_meth_ok o_HH0 jd_xs jd_RL j_FA (ck_cvc rfl we7 (ck_cvc rfl we30 ck_cvn)) kte31
theorem we10 : ck_Val jgd (XZ θ P) j_ft j_df (j_SL L) (j_SV xs) j_MT j_EX kc10 mm_X8_hasHand := we_of wb10 rfl
theorem we40 : ck_Val jgd (XZ θ P) j_ft j_df (j_SL L) (j_SV xs) j_MT j_EX kc40 mm_X11_runCanStep := we_of (wc_of w40 rfl) rfl
theorem we57 : ck_Val jgd (XZ θ P) j_ft j_df (j_SL L) (j_SV xs) j_MT j_EX kc57 mm_X6_after := we_of wb57 rfl
theorem kte58 : ck_meth jgd jrl j_ft jfa j_MT mm_X11_go [] [(78, kc10), (101, kc40), (49, kc57)] kc58 kq58 4000 1 = true := by decide +kernel
theorem we58 : ck_Val jgd (XZ θ P) j_ft j_df (j_SL L) (j_SV xs) j_MT j_EX kc58 mm_X11_go := ck_meth_ok o_HH0 jd_xs jd_RL j_FA (ck_cvc rfl we10 (ck_cvc rfl we40 (ck_cvc rfl we57 ck_cvn))) kte58
theorem we97 : ck_Val jgd (XZ θ P) j_ft j_df (j_SL L) (j_SV xs) j_MT j_EX kc97 mm_X11_refusalOf := we_of wb97 rfl
theorem we102 : ck_Val jgd (XZ θ P) j_ft j_df (j_SL L) (j_SV xs) j_MT j_EX kc102 mm_X7_stateAt := we_of wb102 rfl
theorem kte103 : ck_meth jgd jrl j_ft jfa j_MT mm_X11_lead [] [(115, kc97), (71, kc102), (104, kc30)] kc103 kq103 4000 1 = true := by decide +kernel
theorem we103 : ck_Val jgd (XZ θ P) j_ft j_df (j_SL L) (j_SV xs) j_MT j_EX kc103 mm_X11_lead := ck_meth_ok o_HH0 jd_xs jd_RL j_FA (ck_cvc rfl we97 (ck_cvc rfl we102 (ck_cvc rfl we30 ck_cvn))) kte103
theorem we202 : ck_Val jgd (XZ θ P) j_ft j_df (j_SL L) (j_SV xs) j_MT j_EX kc202 mm_X12_states := we_of wb202 rfl
theorem we208 : ck_Val jgd (XZ θ P) j_ft j_df (j_SL L) (j_SV xs) j_MT j_EX kc208 mm_X12_way := we_of wb208 rfl
theorem we181 : ck_Val jgd (XZ θ P) j_ft j_df (j_SL L) (j_SV xs) j_MT j_EX kc181 mm_X12_start := we_of (wc_of w181 rfl) rfl
theorem we194 : ck_Val jgd (XZ θ P) j_ft j_df (j_SL L) (j_SV xs) j_MT j_EX kc194 mm_X12_go := we_of (wc_of w194 rfl) rfl
theorem we209 : ck_Val jgd (XZ θ P) j_ft j_df (j_SL L) (j_SV xs) j_MT j_EX kc209 mm_X12_lead := we_of wb209 rfl
theorem we211 : ck_Val jgd (XZ θ P) j_ft j_df (j_SL L) (j_SV xs) j_MT j_EX kc211 mm_X12_race := we_of wb211 rfl
theorem we212 : ck_Val jgd (XZ θ P) j_ft j_df (j_SL L) (j_SV xs) j_MT j_EX kc212 mm_X12_always := we_of wb212 rfl
theorem we213 : ck_Val jgd (XZ θ P) j_ft j_df (j_SL L) (j_SV xs) j_MT j_EX kc213 mm_X12_can := we_of wb213 rfl
theorem we264 : ck_Val jgd (XZ θ P) j_ft j_df (j_SL L) (j_SV xs) j_MT j_EX kc264 mm_X12_fix := we_of wb264 rfl
theorem we270 : ck_Val jgd (XZ θ P) j_ft j_df (j_SL L) (j_SV xs) j_MT j_EX kc270 mm_X12_cost := we_of wb270 rfl
theorem we272 : ck_Val jgd (XZ θ P) j_ft j_df (j_SL L) (j_SV xs) j_MT j_EX kc272 mm_X12_explain := we_of wb272 rfl
theorem we273 : ck_Val jgd (XZ θ P) j_ft j_df (j_SL L) (j_SV xs) j_MT j_EX kc273 mm_X12_next := we_of wb273 rfl
theorem we_step0 : ck_Val jgd (XZ θ P) j_ft j_df (j_SL L) (j_SV xs) j_MT j_EX kh_step0 mm_X12_step := we_of wb_step0 rfl
end OB
