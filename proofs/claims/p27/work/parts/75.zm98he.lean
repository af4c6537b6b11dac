variable {θ : Th}
/-! the contracts once more: printed by wip/ck/gen_he.py -/
section HE
variable {P : PG} {L : Nat} {xs : Nat → Int32}
theorem wb11 : ck_Val jgb (XJ θ P) j_ft j_df (j_SL L) (j_SV xs) j_MT j_EX kc11 mm_X11_within := wc_of w11 rfl
theorem wb13 : ck_Val jgb (XJ θ P) j_ft j_df (j_SL L) (j_SV xs) j_MT j_EX kc13 mm_X11_within := wc_of w13 rfl
theorem wb15 : ck_Val jgb (XJ θ P) j_ft j_df (j_SL L) (j_SV xs) j_MT j_EX kc15 mm_X11_within := wc_of w15 rfl
theorem wb22 : ck_Val jgb (XJ θ P) j_ft j_df (j_SL L) (j_SV xs) j_MT j_EX kc22 mm_X11_within := wc_of w22 rfl
theorem wb60 : ck_Val jgb (XJ θ P) j_ft j_df (j_SL L) (j_SV xs) j_MT j_EX kc60 mm_X11_within := wc_of w60 rfl
theorem ktb82 : ck_meth jgb jrl j_ft jfa j_MT mm_X11_states [] [(135, kc11), (135, kc13), (135, kc15), (135, kc22), (135, kc60), (116, kc81)] kc82 kq82 4000 1 = true := by decide +kernel
theorem wb82 : ck_Val jgb (XJ θ P) j_ft j_df (j_SL L) (j_SV xs) j_MT j_EX kc82 mm_X11_states := ck_meth_ok o_HH0 jb_xs jb_RL j_FA (ck_cvc rfl wb11 (ck_cvc rfl wb13 (ck_cvc rfl wb15 (ck_cvc rfl wb22 (ck_cvc rfl wb60 (ck_cvc rfl wb81 ck_cvn)))))) ktb82
theorem wb89 : ck_Val jgb (XJ θ P) j_ft j_df (j_SL L) (j_SV xs) j_MT j_EX kc89 mm_X11_within := wc_of w89 rfl
theorem wb87 : ck_Val jgb (XJ θ P) j_ft j_df (j_SL L) (j_SV xs) j_MT j_EX kc87 mm_X11_within := wc_of w87 rfl
theorem wb94 : ck_Val jgb (XJ θ P) j_ft j_df (j_SL L) (j_SV xs) j_MT j_EX kc94 mm_X11_isOfSort := wc_of w94 rfl
theorem ktb95 : ck_meth jgb jrl j_ft jfa j_MT mm_X11_count [] [(135, kc11), (135, kc13), (135, kc15), (135, kc22), (135, kc60), (135, kc89), (135, kc87), (116, kc81), (114, kc94)] kc95 kq95 4000 2001 = true := by decide +kernel
theorem wb95 : ck_Val jgb (XJ θ P) j_ft j_df (j_SL L) (j_SV xs) j_MT j_EX kc95 mm_X11_count := ck_meth_ok o_HH0 jb_xs jb_RL j_FA (ck_cvc rfl wb11 (ck_cvc rfl wb13 (ck_cvc rfl wb15 (ck_cvc rfl wb22 (ck_cvc rfl wb60 (ck_cvc rfl wb89 (ck_cvc rfl wb87 (ck_cvc rfl wb81 (ck_cvc rfl wb94 ck_cvn))))))))) ktb95
theorem ktb96 : ck_meth jgb jrl j_ft jfa j_MT mm_X11_nth [] [(135, kc11), (135, kc13), (135, kc15), (135, kc22), (135, kc60), (135, kc89), (135, kc87), (116, kc81), (114, kc94)] kc96 kq96 4000 2001 = true := by decide +kernel
theorem wb96 : ck_Val jgb (XJ θ P) j_ft j_df (j_SL L) (j_SV xs) j_MT j_EX kc96 mm_X11_nth := ck_meth_ok o_HH0 jb_xs jb_RL j_FA (ck_cvc rfl wb11 (ck_cvc rfl wb13 (ck_cvc rfl wb15 (ck_cvc rfl wb22 (ck_cvc rfl wb60 (ck_cvc rfl wb89 (ck_cvc rfl wb87 (ck_cvc rfl wb81 (ck_cvc rfl wb94 ck_cvn))))))))) ktb96
theorem ktb97 : ck_meth jgb jrl j_ft jfa j_MT mm_X11_refusalOf [] [(116, kc81)] kc97 kq97 4000 1 = true := by decide +kernel
theorem wb97 : ck_Val jgb (XJ θ P) j_ft j_df (j_SL L) (j_SV xs) j_MT j_EX kc97 mm_X11_refusalOf := ck_meth_ok o_HH0 jb_xs jb_RL j_FA (ck_cvc rfl wb81 ck_cvn) ktb97
theorem wb98 : ck_Val jgb (XJ θ P) j_ft j_df (j_SL L) (j_SV xs) j_MT j_EX kc98 mm_X7_wayLength := wc_of w98 rfl
theorem ktb99 : ck_meth jgb jrl j_ft jfa j_MT mm_X11_way [] [(115, kc97), (74, kc98)] kc99 kq99 4000 1 = true := by decide +kernel
theorem wb99 : ck_Val jgb (XJ θ P) j_ft j_df (j_SL L) (j_SV xs) j_MT j_EX kc99 mm_X11_way := ck_meth_ok o_HH0 jb_xs jb_RL j_FA (ck_cvc rfl wb97 (ck_cvc rfl wb98 ck_cvn)) ktb99
theorem wb100 : ck_Val jgb (XJ θ P) j_ft j_df (j_SL L) (j_SV xs) j_MT j_EX kc100 mm_X7_wayHand := wc_of w100 rfl
theorem ktb101 : ck_meth jgb jrl j_ft jfa j_MT mm_X11_step [] [(115, kc97), (74, kc98), (75, kc100)] kc101 kq101 4000 1 = true := by decide +kernel
theorem wb101 : ck_Val jgb (XJ θ P) j_ft j_df (j_SL L) (j_SV xs) j_MT j_EX kc101 mm_X11_step := ck_meth_ok o_HH0 jb_xs jb_RL j_FA (ck_cvc rfl wb97 (ck_cvc rfl wb98 (ck_cvc rfl wb100 ck_cvn))) ktb101
theorem wb102 : ck_Val jgb (XJ θ P) j_ft j_df (j_SL L) (j_SV xs) j_MT j_EX kc102 mm_X7_stateAt := wc_of w102 rfl
theorem wb30 : ck_Val jgb (XJ θ P) j_ft j_df (j_SL L) (j_SV xs) j_MT j_EX kc30 mm_X11_movedRunTo := wc_of w30 rfl
theorem ktb103 : ck_meth jgb jrl j_ft jfa j_MT mm_X11_lead [] [(115, kc97), (71, kc102), (104, kc30)] kc103 kq103 4000 1 = true := by decide +kernel
theorem wb103 : ck_Val jgb (XJ θ P) j_ft j_df (j_SL L) (j_SV xs) j_MT j_EX kc103 mm_X11_lead := ck_meth_ok o_HH0 jb_xs jb_RL j_FA (ck_cvc rfl wb97 (ck_cvc rfl wb102 (ck_cvc rfl wb30 ck_cvn))) ktb103
theorem wb10 : ck_Val jgb (XJ θ P) j_ft j_df (j_SL L) (j_SV xs) j_MT j_EX kc10 mm_X8_hasHand := wc_of w10 rfl
theorem wb106 : ck_Val jgb (XJ θ P) j_ft j_df (j_SL L) (j_SV xs) j_MT j_EX kc106 mm_X6_races := wc_of w106 rfl
theorem ktb107 : ck_meth jgb jrl j_ft jfa j_MT mm_X11_race [] [(78, kc10), (116, kc81), (71, kc102), (61, kc106)] kc107 kq107 4000 2001 = true := by decide +kernel
theorem wb107 : ck_Val jgb (XJ θ P) j_ft j_df (j_SL L) (j_SV xs) j_MT j_EX kc107 mm_X11_race := ck_meth_ok o_HH0 jb_xs jb_RL j_FA (ck_cvc rfl wb10 (ck_cvc rfl wb81 (ck_cvc rfl wb102 (ck_cvc rfl wb106 ck_cvn)))) ktb107
theorem wb24 : ck_Val jgb (XJ θ P) j_ft j_df (j_SL L) (j_SV xs) j_MT j_EX kc24 mm_X8_hasStatement := wc_of w24 rfl
theorem wb32 : ck_Val jgb (XJ θ P) j_ft j_df (j_SL L) (j_SV xs) j_MT j_EX kc32 mm_X0_position := wc_of w32 rfl
theorem wb37 : ck_Val jgb (XJ θ P) j_ft j_df (j_SL L) (j_SV xs) j_MT j_EX kc37 mm_X0_made := wc_of w37 rfl
theorem wb34 : ck_Val jgb (XJ θ P) j_ft j_df (j_SL L) (j_SV xs) j_MT j_EX kc34 mm_X0_place := wc_of w34 rfl
theorem ktb108 : ck_meth jgb jrl j_ft jfa j_MT mm_X11_always [] [(79, kc24), (135, kc11), (135, kc13), (135, kc15), (135, kc22), (135, kc60), (135, kc89), (135, kc87), (116, kc81), (71, kc102), (0, kc32), (1, kc37), (4, kc34)] kc108 kq108 4000 2001 = true := by decide +kernel
theorem wb108 : ck_Val jgb (XJ θ P) j_ft j_df (j_SL L) (j_SV xs) j_MT j_EX kc108 mm_X11_always := ck_meth_ok o_HH0 jb_xs jb_RL j_FA (ck_cvc rfl wb24 (ck_cvc rfl wb11 (ck_cvc rfl wb13 (ck_cvc rfl wb15 (ck_cvc rfl wb22 (ck_cvc rfl wb60 (ck_cvc rfl wb89 (ck_cvc rfl wb87 (ck_cvc rfl wb81 (ck_cvc rfl wb102 (ck_cvc rfl wb32 (ck_cvc rfl wb37 (ck_cvc rfl wb34 ck_cvn))))))))))))) ktb108
theorem wb109 : ck_Val jgb (XJ θ P) j_ft j_df (j_SL L) (j_SV xs) j_MT j_EX kc109 mm_X11_says := wc_of w109 rfl
theorem ktb110 : ck_meth jgb jrl j_ft jfa j_MT mm_X11_can [] [(135, kc11), (135, kc13), (135, kc15), (135, kc22), (135, kc60), (135, kc89), (135, kc87), (116, kc81), (136, kc109)] kc110 kq110 4000 1 = true := by decide +kernel
theorem wb110 : ck_Val jgb (XJ θ P) j_ft j_df (j_SL L) (j_SV xs) j_MT j_EX kc110 mm_X11_can := ck_meth_ok o_HH0 jb_xs jb_RL j_FA (ck_cvc rfl wb11 (ck_cvc rfl wb13 (ck_cvc rfl wb15 (ck_cvc rfl wb22 (ck_cvc rfl wb60 (ck_cvc rfl wb89 (ck_cvc rfl wb87 (ck_cvc rfl wb81 (ck_cvc rfl wb109 ck_cvn))))))))) ktb110
theorem wb111 : ck_Val jgb (XJ θ P) j_ft j_df (j_SL L) (j_SV xs) j_MT j_EX kc111 mm_X1_fits := wc_of w111 rfl
theorem wb112 : ck_Val jgb (XJ θ P) j_ft j_df (j_SL L) (j_SV xs) j_MT j_EX kc112 mm_J7_fill_d0a16 := wc_of w112 rfl
theorem wb113 : ck_Val jgb (XJ θ P) j_ft j_df (j_SL L) (j_SV xs) j_MT j_EX kc113 mm_X1_isPair := wc_of w113 rfl
theorem wb121 : ck_Val jgb (XJ θ P) j_ft j_df (j_SL L) (j_SV xs) j_MT j_EX kc121 mm_X1_draftPair := wc_of w121 rfl
theorem wb7 : ck_Val jgb (XJ θ P) j_ft j_df (j_SL L) (j_SV xs) j_MT j_EX kc7 mm_X6_first := wc_of w7 rfl
theorem wb122 : ck_Val jgb (XJ θ P) j_ft j_df (j_SL L) (j_SV xs) j_MT j_EX kc122 mm_X6_first := wc_of w122 rfl
theorem wb39 : ck_Val jgb (XJ θ P) j_ft j_df (j_SL L) (j_SV xs) j_MT j_EX kc39 mm_X6_ableHands := wc_of w39 rfl
theorem wb129 : ck_Val jgb (XJ θ P) j_ft j_df (j_SL L) (j_SV xs) j_MT j_EX kc129 mm_X6_ableHands := wc_of w129 rfl
theorem wb66 : ck_Val jgb (XJ θ P) j_ft j_df (j_SL L) (j_SV xs) j_MT j_EX kc66 mm_X0_last := wc_of w66 rfl
theorem wb67 : ck_Val jgb (XJ θ P) j_ft j_df (j_SL L) (j_SV xs) j_MT j_EX kc67 mm_X6_chosenHands := wc_of w67 rfl
theorem wb130 : ck_Val jgb (XJ θ P) j_ft j_df (j_SL L) (j_SV xs) j_MT j_EX kc130 mm_X6_chosenHands := wc_of w130 rfl
theorem wb57 : ck_Val jgb (XJ θ P) j_ft j_df (j_SL L) (j_SV xs) j_MT j_EX kc57 mm_X6_after := wc_of w57 rfl
theorem wb135 : ck_Val jgb (XJ θ P) j_ft j_df (j_SL L) (j_SV xs) j_MT j_EX kc135 mm_X6_after := wc_of w135 rfl
theorem wb69 : ck_Val jgb (XJ θ P) j_ft j_df (j_SL L) (j_SV xs) j_MT j_EX kc69 mm_X6_marked := wc_of w69 rfl
theorem wb136 : ck_Val jgb (XJ θ P) j_ft j_df (j_SL L) (j_SV xs) j_MT j_EX kc136 mm_X6_marked := wc_of w136 rfl
theorem wb70 : ck_Val jgb (XJ θ P) j_ft j_df (j_SL L) (j_SV xs) j_MT j_EX kc70 mm_X6_isEnd := wc_of w70 rfl
theorem wb137 : ck_Val jgb (XJ θ P) j_ft j_df (j_SL L) (j_SV xs) j_MT j_EX kc137 mm_X6_isEnd := wc_of w137 rfl
theorem wb71 : ck_Val jgb (XJ θ P) j_ft j_df (j_SL L) (j_SV xs) j_MT j_EX kc71 mm_X6_someFailed := wc_of w71 rfl
theorem wb138 : ck_Val jgb (XJ θ P) j_ft j_df (j_SL L) (j_SV xs) j_MT j_EX kc138 mm_X6_someFailed := wc_of w138 rfl
theorem ktb78 : ck_meth jgb jrl j_ft jfa j_MT mm_X7_noteEnd [] [(4, kc34)] kc78 kq78 4000 5 = true := by decide +kernel
theorem wb78 : ck_Val jgb (XJ θ P) j_ft j_df (j_SL L) (j_SV xs) j_MT j_EX kc78 mm_X7_noteEnd := ck_meth_ok o_HH0 jb_xs jb_RL j_FA (ck_cvc rfl wb34 ck_cvn) ktb78
theorem ktb139 : ck_meth jgb jrl j_ft jfa j_MT mm_X7_lookAt [] [(44, kc39), (44, kc129), (6, kc66), (47, kc67), (47, kc130), (49, kc57), (49, kc135), (48, kc69), (48, kc136), (69, kc77), (59, kc70), (59, kc137), (60, kc71), (60, kc138), (68, kc78)] kc139 kq139 4000 4 = true := by decide +kernel
theorem wb139 : ck_Val jgb (XJ θ P) j_ft j_df (j_SL L) (j_SV xs) j_MT j_EX kc139 mm_X7_lookAt := ck_meth_ok o_HH0 jb_xs jb_RL j_FA (ck_cvc rfl wb39 (ck_cvc rfl wb129 (ck_cvc rfl wb66 (ck_cvc rfl wb67 (ck_cvc rfl wb130 (ck_cvc rfl wb57 (ck_cvc rfl wb135 (ck_cvc rfl wb69 (ck_cvc rfl wb136 (ck_cvc rfl wb77 (ck_cvc rfl wb70 (ck_cvc rfl wb137 (ck_cvc rfl wb71 (ck_cvc rfl wb138 (ck_cvc rfl wb78 ck_cvn))))))))))))))) ktb139
theorem ktb140 : ck_meth jgb jrl j_ft jfa j_MT mm_X7_explore [] [(66, kc75), (43, kc7), (43, kc122), (69, kc77), (67, kc139)] kc140 kq140 4000 2001 = true := by decide +kernel
theorem wb140 : ck_Val jgb (XJ θ P) j_ft j_df (j_SL L) (j_SV xs) j_MT j_EX kc140 mm_X7_explore := ck_meth_ok o_HH0 jb_xs jb_RL j_FA (ck_cvc rfl wb75 (ck_cvc rfl wb7 (ck_cvc rfl wb122 (ck_cvc rfl wb77 (ck_cvc rfl wb139 ck_cvn))))) ktb140
theorem ktb141 : ck_meth jgb jrl j_ft jfa j_MT mm_X1_outcomeOf [] [(22, kc121), (65, kc140)] kc141 kq141 4000 1 = true := by decide +kernel
theorem wb141 : ck_Val jgb (XJ θ P) j_ft j_df (j_SL L) (j_SV xs) j_MT j_EX kc141 mm_X1_outcomeOf := ck_meth_ok o_HH0 jb_xs jb_RL j_FA (ck_cvc rfl wb121 (ck_cvc rfl wb140 ck_cvn)) ktb141
theorem wb142 : ck_Val jgb (XJ θ P) j_ft j_df (j_SL L) (j_SV xs) j_MT j_EX kc142 mm_X1_holds := wc_of w142 rfl
theorem ktb143 : ck_meth jgb jrl j_ft jfa j_MT mm_X1_least [] [(221, kc112), (19, kc113), (21, kc141), (20, kc142)] kc143 kq143 4000 1230 = true := by decide +kernel
theorem wb143 : ck_Val jgb (XJ θ P) j_ft j_df (j_SL L) (j_SV xs) j_MT j_EX kc143 mm_X1_least := ck_meth_ok o_HH0 jb_xs jb_RL j_FA (ck_cvc rfl wb112 (ck_cvc rfl wb113 (ck_cvc rfl wb141 (ck_cvc rfl wb142 ck_cvn)))) ktb143
theorem ktb144 : ck_meth jgb jrl j_ft jfa j_MT mm_X11_fix [] [(135, kc11), (135, kc13), (135, kc15), (135, kc22), (135, kc60), (135, kc89), (135, kc87), (16, kc111), (18, kc143)] kc144 kq144 4000 1 = true := by decide +kernel
theorem wb144 : ck_Val jgb (XJ θ P) j_ft j_df (j_SL L) (j_SV xs) j_MT j_EX kc144 mm_X11_fix := ck_meth_ok o_HH0 jb_xs jb_RL j_FA (ck_cvc rfl wb11 (ck_cvc rfl wb13 (ck_cvc rfl wb15 (ck_cvc rfl wb22 (ck_cvc rfl wb60 (ck_cvc rfl wb89 (ck_cvc rfl wb87 (ck_cvc rfl wb111 (ck_cvc rfl wb143 ck_cvn))))))))) ktb144
theorem wb145 : ck_Val jgb (XJ θ P) j_ft j_df (j_SL L) (j_SV xs) j_MT j_EX kc145 mm_X11_within := wc_of w145 rfl
theorem ktb152 : ck_meth jgb jrl j_ft jfa j_MT mm_X11_someSpent [] [(116, kc81)] kc152 kq152 4000 6 = true := by decide +kernel
theorem wb152 : ck_Val jgb (XJ θ P) j_ft j_df (j_SL L) (j_SV xs) j_MT j_EX kc152 mm_X11_someSpent := ck_meth_ok o_HH0 jb_xs jb_RL j_FA (ck_cvc rfl wb81 ck_cvn) ktb152
theorem wb153 : ck_Val jgb (XJ θ P) j_ft j_df (j_SL L) (j_SV xs) j_MT j_EX kc153 mm_X3_costBy := wc_of w153 rfl
theorem ktb154 : ck_meth jgb jrl j_ft jfa j_MT mm_X11_cost [] [(135, kc11), (135, kc13), (135, kc15), (135, kc22), (135, kc60), (135, kc89), (135, kc145), (135, kc87), (117, kc152), (30, kc153)] kc154 kq154 4000 1 = true := by decide +kernel
theorem wb154 : ck_Val jgb (XJ θ P) j_ft j_df (j_SL L) (j_SV xs) j_MT j_EX kc154 mm_X11_cost := ck_meth_ok o_HH0 jb_xs jb_RL j_FA (ck_cvc rfl wb11 (ck_cvc rfl wb13 (ck_cvc rfl wb15 (ck_cvc rfl wb22 (ck_cvc rfl wb60 (ck_cvc rfl wb89 (ck_cvc rfl wb145 (ck_cvc rfl wb87 (ck_cvc rfl wb152 (ck_cvc rfl wb153 ck_cvn)))))))))) ktb154
theorem wb155 : ck_Val jgb (XJ θ P) j_ft j_df (j_SL L) (j_SV xs) j_MT j_EX kc155 mm_X3_cheapest := wc_of w155 rfl
theorem ktb156 : ck_meth jgb jrl j_ft jfa j_MT mm_X11_explain [] [(117, kc152), (31, kc155)] kc156 kq156 4000 1 = true := by decide +kernel
theorem wb156 : ck_Val jgb (XJ θ P) j_ft j_df (j_SL L) (j_SV xs) j_MT j_EX kc156 mm_X11_explain := ck_meth_ok o_HH0 jb_xs jb_RL j_FA (ck_cvc rfl wb152 (ck_cvc rfl wb155 ck_cvn)) ktb156
theorem wb150 : ck_Val jgb (XJ θ P) j_ft j_df (j_SL L) (j_SV xs) j_MT j_EX kc150 mm_X3_heard := wc_of w150 rfl
theorem wb159 : ck_Val jgb (XJ θ P) j_ft j_df (j_SL L) (j_SV xs) j_MT j_EX kc159 mm_X3_bestQuestion := wc_of w159 rfl
theorem ktb160 : ck_meth jgb jrl j_ft jfa j_MT mm_X11_next [] [(29, kc150), (117, kc152), (32, kc159)] kc160 kq160 4000 1 = true := by decide +kernel
theorem wb160 : ck_Val jgb (XJ θ P) j_ft j_df (j_SL L) (j_SV xs) j_MT j_EX kc160 mm_X11_next := ck_meth_ok o_HH0 jb_xs jb_RL j_FA (ck_cvc rfl wb150 (ck_cvc rfl wb152 (ck_cvc rfl wb159 ck_cvn))) ktb160
end HE
