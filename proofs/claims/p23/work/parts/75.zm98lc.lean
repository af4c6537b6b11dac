variable {θ : Th}
/-! the contracts for the learner's parts: printed by wip/ck/gen_lc.py -/
section LC
variable {P : PG} {L : Nat} {xs : Nat → Int32}
theorem wl82 : ck_Val jgd (XL9 θ P) j_ft j_df (j_SL L) (j_SV xs) j_MT j_EX kc82 mm_X11_states := wl_of wb82 rfl
theorem wl95 : ck_Val jgd (XL9 θ P) j_ft j_df (j_SL L) (j_SV xs) j_MT j_EX kc95 mm_X11_count := wl_of wb95 rfl
theorem wl96 : ck_Val jgd (XL9 θ P) j_ft j_df (j_SL L) (j_SV xs) j_MT j_EX kc96 mm_X11_nth := wl_of wb96 rfl
theorem wl99 : ck_Val jgd (XL9 θ P) j_ft j_df (j_SL L) (j_SV xs) j_MT j_EX kc99 mm_X11_way := wl_of wb99 rfl
theorem wl101 : ck_Val jgd (XL9 θ P) j_ft j_df (j_SL L) (j_SV xs) j_MT j_EX kc101 mm_X11_step := wl_of wb101 rfl
theorem wl103 : ck_Val jgd (XL9 θ P) j_ft j_df (j_SL L) (j_SV xs) j_MT j_EX kc103 mm_X11_lead := wl_of wb103 rfl
theorem wl107 : ck_Val jgd (XL9 θ P) j_ft j_df (j_SL L) (j_SV xs) j_MT j_EX kc107 mm_X11_race := wl_of wb107 rfl
theorem wl108 : ck_Val jgd (XL9 θ P) j_ft j_df (j_SL L) (j_SV xs) j_MT j_EX kc108 mm_X11_always := wl_of wb108 rfl
theorem wl110 : ck_Val jgd (XL9 θ P) j_ft j_df (j_SL L) (j_SV xs) j_MT j_EX kc110 mm_X11_can := wl_of wb110 rfl
theorem wl144 : ck_Val jgd (XL9 θ P) j_ft j_df (j_SL L) (j_SV xs) j_MT j_EX kc144 mm_X11_fix := wl_of wb144 rfl
theorem wl154 : ck_Val jgd (XL9 θ P) j_ft j_df (j_SL L) (j_SV xs) j_MT j_EX kc154 mm_X11_cost := wl_of wb154 rfl
theorem wl156 : ck_Val jgd (XL9 θ P) j_ft j_df (j_SL L) (j_SV xs) j_MT j_EX kc156 mm_X11_explain := wl_of wb156 rfl
theorem wl160 : ck_Val jgd (XL9 θ P) j_ft j_df (j_SL L) (j_SV xs) j_MT j_EX kc160 mm_X11_next := wl_of wb160 rfl
theorem wl31 : ck_Val jgd (XL9 θ P) j_ft j_df (j_SL L) (j_SV xs) j_MT j_EX kc31 mm_X11_start := wl_of (wc_of w31 rfl) rfl
theorem wl58 : ck_Val jgd (XL9 θ P) j_ft j_df (j_SL L) (j_SV xs) j_MT j_EX kc58 mm_X11_go := wl_of (wc_of w58 rfl) rfl
theorem wl62 : ck_Val jgd (XL9 θ P) j_ft j_df (j_SL L) (j_SV xs) j_MT j_EX kc62 mm_X11_see := wl_of (wc_of w62 rfl) rfl
theorem wl164 : ck_Val jgd (XL9 θ P) j_ft j_df (j_SL L) (j_SV xs) j_MT j_EX kc164 mm_X12_firstState := wl_of (wc_of w164 rfl) rfl
theorem wl180 : ck_Val jgd (XL9 θ P) j_ft j_df (j_SL L) (j_SV xs) j_MT j_EX kc180 mm_X12_settle := wl_of wb180 rfl
theorem ktl181 : ck_meth jgd jrl j_ft jfa j_MT mm_X12_start [] [(147, kc164), (169, kc180)] kc181 kq181 4000 1 = true := by decide +kernel
theorem wl181 : ck_Val jgd (XL9 θ P) j_ft j_df (j_SL L) (j_SV xs) j_MT j_EX kc181 mm_X12_start := ck_meth_ok o_HH0 jd_xs jd_RL j_FA (ck_cvc rfl wl164 (ck_cvc rfl wl180 ck_cvn)) ktl181
theorem wl169 : ck_Val jgd (XL9 θ P) j_ft j_df (j_SL L) (j_SV xs) j_MT j_EX kc169 mm_X12_isHand := wl_of wb169 rfl
theorem ktl182 : ck_meth jgd jrl j_ft jfa j_MT mm_X12_stand [] [] kc182 kq182 4000 1 = true := by decide +kernel
theorem wl182 : ck_Val jgd (XL9 θ P) j_ft j_df (j_SL L) (j_SV xs) j_MT j_EX kc182 mm_X12_stand := ck_meth_ok o_HH0 jd_xs jd_RL j_FA ck_cvn ktl182
theorem wl187 : ck_Val jgd (XL9 θ P) j_ft j_df (j_SL L) (j_SV xs) j_MT j_EX kc187 mm_X12_canStep := wl_of wb187 rfl
theorem wl193 : ck_Val jgd (XL9 θ P) j_ft j_df (j_SL L) (j_SV xs) j_MT j_EX kc193 mm_X12_stepBy := wl_of (wc_of w193 rfl) rfl
theorem ktl194 : ck_meth jgd jrl j_ft jfa j_MT mm_X12_go [] [(142, kc169), (167, kc182), (159, kc187), (166, kc193)] kc194 kq194 4000 1 = true := by decide +kernel
theorem wl194 : ck_Val jgd (XL9 θ P) j_ft j_df (j_SL L) (j_SV xs) j_MT j_EX kc194 mm_X12_go := ck_meth_ok o_HH0 jd_xs jd_RL j_FA (ck_cvc rfl wl169 (ck_cvc rfl wl182 (ck_cvc rfl wl187 (ck_cvc rfl wl193 ck_cvn)))) ktl194
theorem wl172 : ck_Val jgd (XL9 θ P) j_ft j_df (j_SL L) (j_SV xs) j_MT j_EX kc172 mm_X12_in := wl_of wb172 rfl
theorem wl174 : ck_Val jgd (XL9 θ P) j_ft j_df (j_SL L) (j_SV xs) j_MT j_EX kc174 mm_X12_in := wl_of wb174 rfl
theorem wl161 : ck_Val jgd (XL9 θ P) j_ft j_df (j_SL L) (j_SV xs) j_MT j_EX kc161 mm_X12_in := wl_of wb161 rfl
theorem wl163 : ck_Val jgd (XL9 θ P) j_ft j_df (j_SL L) (j_SV xs) j_MT j_EX kc163 mm_X12_in := wl_of wb163 rfl
theorem wl171 : ck_Val jgd (XL9 θ P) j_ft j_df (j_SL L) (j_SV xs) j_MT j_EX kc171 mm_X12_in := wl_of wb171 rfl
theorem wl176 : ck_Val jgd (XL9 θ P) j_ft j_df (j_SL L) (j_SV xs) j_MT j_EX kc176 mm_X12_in := wl_of wb176 rfl
theorem wl195 : ck_Val jgd (XL9 θ P) j_ft j_df (j_SL L) (j_SV xs) j_MT j_EX kc195 mm_X12_in := wl_of wb195 rfl
theorem wl168 : ck_Val jgd (XL9 θ P) j_ft j_df (j_SL L) (j_SV xs) j_MT j_EX kc168 mm_X12_in := wl_of wb168 rfl
theorem wl170 : ck_Val jgd (XL9 θ P) j_ft j_df (j_SL L) (j_SV xs) j_MT j_EX kc170 mm_X12_in := wl_of wb170 rfl
theorem ktl196 : ck_meth jgd jrl j_ft jfa j_MT mm_X12_see [] [(140, kc172), (140, kc174), (140, kc161), (140, kc163), (140, kc171), (140, kc176), (140, kc195), (140, kc168), (140, kc170), (142, kc169), (167, kc182), (159, kc187)] kc196 kq196 4000 1 = true := by decide +kernel
theorem wl196 : ck_Val jgd (XL9 θ P) j_ft j_df (j_SL L) (j_SV xs) j_MT j_EX kc196 mm_X12_see := ck_meth_ok o_HH0 jd_xs jd_RL j_FA (ck_cvc rfl wl172 (ck_cvc rfl wl174 (ck_cvc rfl wl161 (ck_cvc rfl wl163 (ck_cvc rfl wl171 (ck_cvc rfl wl176 (ck_cvc rfl wl195 (ck_cvc rfl wl168 (ck_cvc rfl wl170 (ck_cvc rfl wl169 (ck_cvc rfl wl182 (ck_cvc rfl wl187 ck_cvn)))))))))))) ktl196
theorem wl197 : ck_Val jgd (XL9 θ P) j_ft j_df (j_SL L) (j_SV xs) j_MT j_EX kc197 mm_X12_in := wl_of wb197 rfl
theorem ktl202 : ck_meth jgd jrl j_ft jfa j_MT mm_X12_states [] [(140, kc172), (140, kc174), (140, kc161), (140, kc163), (140, kc171), (140, kc176), (140, kc195), (140, kc197), (140, kc168), (140, kc170), (180, kc201)] kc202 kq202 4000 1 = true := by decide +kernel
theorem wl202 : ck_Val jgd (XL9 θ P) j_ft j_df (j_SL L) (j_SV xs) j_MT j_EX kc202 mm_X12_states := ck_meth_ok o_HH0 jd_xs jd_RL j_FA (ck_cvc rfl wl172 (ck_cvc rfl wl174 (ck_cvc rfl wl161 (ck_cvc rfl wl163 (ck_cvc rfl wl171 (ck_cvc rfl wl176 (ck_cvc rfl wl195 (ck_cvc rfl wl197 (ck_cvc rfl wl168 (ck_cvc rfl wl170 (ck_cvc rfl wl201 ck_cvn))))))))))) ktl202
theorem wl_findBacks0 : ck_Val jgd (XL9 θ P) j_ft j_df (j_SL L) (j_SV xs) j_MT j_EX kh_findBacks0 mm_X12_findBacks := wl_of wb_findBacks0 rfl
theorem wl204 : ck_Val jgd (XL9 θ P) j_ft j_df (j_SL L) (j_SV xs) j_MT j_EX kc204 mm_X12_isSuch := wl_of wb204 rfl
theorem ktl205 : ck_meth jgd jrl j_ft jfa j_MT mm_X12_count [] [(140, kc172), (140, kc174), (140, kc161), (140, kc163), (140, kc171), (140, kc176), (140, kc195), (140, kc197), (140, kc168), (140, kc170), (180, kc201), (182, kh_findBacks0), (183, kc204)] kc205 kq205 4000 2001 = true := by decide +kernel
theorem wl205 : ck_Val jgd (XL9 θ P) j_ft j_df (j_SL L) (j_SV xs) j_MT j_EX kc205 mm_X12_count := ck_meth_ok o_HH0 jd_xs jd_RL j_FA (ck_cvc rfl wl172 (ck_cvc rfl wl174 (ck_cvc rfl wl161 (ck_cvc rfl wl163 (ck_cvc rfl wl171 (ck_cvc rfl wl176 (ck_cvc rfl wl195 (ck_cvc rfl wl197 (ck_cvc rfl wl168 (ck_cvc rfl wl170 (ck_cvc rfl wl201 (ck_cvc rfl wl_findBacks0 (ck_cvc rfl wl204 ck_cvn))))))))))))) ktl205
theorem ktl206 : ck_meth jgd jrl j_ft jfa j_MT mm_X12_nth [] [(140, kc172), (140, kc174), (140, kc161), (140, kc163), (140, kc171), (140, kc176), (140, kc195), (140, kc197), (140, kc168), (140, kc170), (180, kc201), (182, kh_findBacks0), (183, kc204)] kc206 kq206 4000 2001 = true := by decide +kernel
theorem wl206 : ck_Val jgd (XL9 θ P) j_ft j_df (j_SL L) (j_SV xs) j_MT j_EX kc206 mm_X12_nth := ck_meth_ok o_HH0 jd_xs jd_RL j_FA (ck_cvc rfl wl172 (ck_cvc rfl wl174 (ck_cvc rfl wl161 (ck_cvc rfl wl163 (ck_cvc rfl wl171 (ck_cvc rfl wl176 (ck_cvc rfl wl195 (ck_cvc rfl wl197 (ck_cvc rfl wl168 (ck_cvc rfl wl170 (ck_cvc rfl wl201 (ck_cvc rfl wl_findBacks0 (ck_cvc rfl wl204 ck_cvn))))))))))))) ktl206
theorem ktl207 : ck_meth jgd jrl j_ft jfa j_MT mm_X12_lacks [] [(180, kc201)] kc207 kq207 4000 1 = true := by decide +kernel
theorem wl207 : ck_Val jgd (XL9 θ P) j_ft j_df (j_SL L) (j_SV xs) j_MT j_EX kc207 mm_X12_lacks := ck_meth_ok o_HH0 jd_xs jd_RL j_FA (ck_cvc rfl wl201 ck_cvn) ktl207
theorem wl_length0 : ck_Val jgd (XL9 θ P) j_ft j_df (j_SL L) (j_SV xs) j_MT j_EX kh_length0 mm_X12_length := wl_of wb_length0 rfl
theorem ktl208 : ck_meth jgd jrl j_ft jfa j_MT mm_X12_way [] [(186, kc207), (187, kh_length0)] kc208 kq208 4000 1 = true := by decide +kernel
theorem wl208 : ck_Val jgd (XL9 θ P) j_ft j_df (j_SL L) (j_SV xs) j_MT j_EX kc208 mm_X12_way := ck_meth_ok o_HH0 jd_xs jd_RL j_FA (ck_cvc rfl wl207 (ck_cvc rfl wl_length0 ck_cvn)) ktl208
theorem wl198 : ck_Val jgd (XL9 θ P) j_ft j_df (j_SL L) (j_SV xs) j_MT j_EX kc198 mm_X12_standAt := wl_of wb198 rfl
theorem wl200 : ck_Val jgd (XL9 θ P) j_ft j_df (j_SL L) (j_SV xs) j_MT j_EX kc200 mm_X12_standAt := wl_of wb200 rfl
theorem ktl209 : ck_meth jgd jrl j_ft jfa j_MT mm_X12_lead [] [(186, kc207), (176, kc198), (176, kc200), (169, kc180)] kc209 kq209 4000 1 = true := by decide +kernel
theorem wl209 : ck_Val jgd (XL9 θ P) j_ft j_df (j_SL L) (j_SV xs) j_MT j_EX kc209 mm_X12_lead := ck_meth_ok o_HH0 jd_xs jd_RL j_FA (ck_cvc rfl wl207 (ck_cvc rfl wl198 (ck_cvc rfl wl200 (ck_cvc rfl wl180 ck_cvn)))) ktl209
theorem wl184 : ck_Val jgd (XL9 θ P) j_ft j_df (j_SL L) (j_SV xs) j_MT j_EX kc184 mm_X12_at := wl_of (wc_of w184 rfl) rfl
theorem ktl210 : ck_meth jgd jrl j_ft jfa j_MT mm_X12_touches [] [(155, kc184)] kc210 kq210 4000 1 = true := by decide +kernel
theorem wl210 : ck_Val jgd (XL9 θ P) j_ft j_df (j_SL L) (j_SV xs) j_MT j_EX kc210 mm_X12_touches := ck_meth_ok o_HH0 jd_xs jd_RL j_FA (ck_cvc rfl wl184 ck_cvn) ktl210
theorem ktl211 : ck_meth jgd jrl j_ft jfa j_MT mm_X12_race [] [(142, kc169), (180, kc201), (176, kc198), (176, kc200), (159, kc187), (191, kc210)] kc211 kq211 4000 2001 = true := by decide +kernel
theorem wl211 : ck_Val jgd (XL9 θ P) j_ft j_df (j_SL L) (j_SV xs) j_MT j_EX kc211 mm_X12_race := ck_meth_ok o_HH0 jd_xs jd_RL j_FA (ck_cvc rfl wl169 (ck_cvc rfl wl201 (ck_cvc rfl wl198 (ck_cvc rfl wl200 (ck_cvc rfl wl187 (ck_cvc rfl wl210 ck_cvn)))))) ktl211
theorem wl162 : ck_Val jgd (XL9 θ P) j_ft j_df (j_SL L) (j_SV xs) j_MT j_EX kc162 mm_X12_isPlace := wl_of wb162 rfl
theorem ktl212 : ck_meth jgd jrl j_ft jfa j_MT mm_X12_always [] [(142, kc169), (140, kc172), (140, kc174), (140, kc161), (140, kc163), (140, kc171), (140, kc176), (140, kc195), (140, kc197), (140, kc168), (140, kc170), (143, kc162), (180, kc201), (176, kc198), (176, kc200)] kc212 kq212 4000 2001 = true := by decide +kernel
theorem wl212 : ck_Val jgd (XL9 θ P) j_ft j_df (j_SL L) (j_SV xs) j_MT j_EX kc212 mm_X12_always := ck_meth_ok o_HH0 jd_xs jd_RL j_FA (ck_cvc rfl wl169 (ck_cvc rfl wl172 (ck_cvc rfl wl174 (ck_cvc rfl wl161 (ck_cvc rfl wl163 (ck_cvc rfl wl171 (ck_cvc rfl wl176 (ck_cvc rfl wl195 (ck_cvc rfl wl197 (ck_cvc rfl wl168 (ck_cvc rfl wl170 (ck_cvc rfl wl162 (ck_cvc rfl wl201 (ck_cvc rfl wl198 (ck_cvc rfl wl200 ck_cvn))))))))))))))) ktl212
theorem ktl213 : ck_meth jgd jrl j_ft jfa j_MT mm_X12_can [] [(140, kc172), (140, kc174), (140, kc161), (140, kc163), (140, kc171), (140, kc176), (140, kc195), (140, kc197), (140, kc168), (140, kc170), (143, kc162), (180, kc201)] kc213 kq213 4000 1 = true := by decide +kernel
theorem wl213 : ck_Val jgd (XL9 θ P) j_ft j_df (j_SL L) (j_SV xs) j_MT j_EX kc213 mm_X12_can := ck_meth_ok o_HH0 jd_xs jd_RL j_FA (ck_cvc rfl wl172 (ck_cvc rfl wl174 (ck_cvc rfl wl161 (ck_cvc rfl wl163 (ck_cvc rfl wl171 (ck_cvc rfl wl176 (ck_cvc rfl wl195 (ck_cvc rfl wl197 (ck_cvc rfl wl168 (ck_cvc rfl wl170 (ck_cvc rfl wl162 (ck_cvc rfl wl201 ck_cvn)))))))))))) ktl213
theorem wl214 : ck_Val jgd (XL9 θ P) j_ft j_df (j_SL L) (j_SV xs) j_MT j_EX kc214 mm_X12_within := wl_of wb214 rfl
theorem wl221 : ck_Val jgd (XL9 θ P) j_ft j_df (j_SL L) (j_SV xs) j_MT j_EX kc221 mm_X12_within := wl_of wb221 rfl
theorem wl226 : ck_Val jgd (XL9 θ P) j_ft j_df (j_SL L) (j_SV xs) j_MT j_EX kc226 mm_X12_within := wl_of wb226 rfl
theorem wl231 : ck_Val jgd (XL9 θ P) j_ft j_df (j_SL L) (j_SV xs) j_MT j_EX kc231 mm_X12_within := wl_of wb231 rfl
theorem wl236 : ck_Val jgd (XL9 θ P) j_ft j_df (j_SL L) (j_SV xs) j_MT j_EX kc236 mm_X12_within := wl_of wb236 rfl
theorem wl241 : ck_Val jgd (XL9 θ P) j_ft j_df (j_SL L) (j_SV xs) j_MT j_EX kc241 mm_X12_within := wl_of wb241 rfl
theorem wl246 : ck_Val jgd (XL9 θ P) j_ft j_df (j_SL L) (j_SV xs) j_MT j_EX kc246 mm_X12_within := wl_of wb246 rfl
theorem wl251 : ck_Val jgd (XL9 θ P) j_ft j_df (j_SL L) (j_SV xs) j_MT j_EX kc251 mm_X12_within := wl_of wb251 rfl
theorem wl256 : ck_Val jgd (XL9 θ P) j_ft j_df (j_SL L) (j_SV xs) j_MT j_EX kc256 mm_X12_within := wl_of wb256 rfl
theorem wl261 : ck_Val jgd (XL9 θ P) j_ft j_df (j_SL L) (j_SV xs) j_MT j_EX kc261 mm_X12_within := wl_of wb261 rfl
theorem wl215 : ck_Val jgd (XL9 θ P) j_ft j_df (j_SL L) (j_SV xs) j_MT j_EX kc215 mm_X12_choiceTo := wl_of wb215 rfl
theorem wl219 : ck_Val jgd (XL9 θ P) j_ft j_df (j_SL L) (j_SV xs) j_MT j_EX kc219 mm_X12_choiceTo := wl_of wb219 rfl
theorem wl222 : ck_Val jgd (XL9 θ P) j_ft j_df (j_SL L) (j_SV xs) j_MT j_EX kc222 mm_X12_choiceTo := wl_of wb222 rfl
theorem wl224 : ck_Val jgd (XL9 θ P) j_ft j_df (j_SL L) (j_SV xs) j_MT j_EX kc224 mm_X12_choiceTo := wl_of wb224 rfl
theorem wl227 : ck_Val jgd (XL9 θ P) j_ft j_df (j_SL L) (j_SV xs) j_MT j_EX kc227 mm_X12_choiceTo := wl_of wb227 rfl
theorem wl229 : ck_Val jgd (XL9 θ P) j_ft j_df (j_SL L) (j_SV xs) j_MT j_EX kc229 mm_X12_choiceTo := wl_of wb229 rfl
theorem wl232 : ck_Val jgd (XL9 θ P) j_ft j_df (j_SL L) (j_SV xs) j_MT j_EX kc232 mm_X12_choiceTo := wl_of wb232 rfl
theorem wl234 : ck_Val jgd (XL9 θ P) j_ft j_df (j_SL L) (j_SV xs) j_MT j_EX kc234 mm_X12_choiceTo := wl_of wb234 rfl
theorem wl237 : ck_Val jgd (XL9 θ P) j_ft j_df (j_SL L) (j_SV xs) j_MT j_EX kc237 mm_X12_choiceTo := wl_of wb237 rfl
theorem wl239 : ck_Val jgd (XL9 θ P) j_ft j_df (j_SL L) (j_SV xs) j_MT j_EX kc239 mm_X12_choiceTo := wl_of wb239 rfl
theorem wl242 : ck_Val jgd (XL9 θ P) j_ft j_df (j_SL L) (j_SV xs) j_MT j_EX kc242 mm_X12_choiceTo := wl_of wb242 rfl
theorem wl244 : ck_Val jgd (XL9 θ P) j_ft j_df (j_SL L) (j_SV xs) j_MT j_EX kc244 mm_X12_choiceTo := wl_of wb244 rfl
theorem wl247 : ck_Val jgd (XL9 θ P) j_ft j_df (j_SL L) (j_SV xs) j_MT j_EX kc247 mm_X12_choiceTo := wl_of wb247 rfl
theorem wl249 : ck_Val jgd (XL9 θ P) j_ft j_df (j_SL L) (j_SV xs) j_MT j_EX kc249 mm_X12_choiceTo := wl_of wb249 rfl
theorem wl252 : ck_Val jgd (XL9 θ P) j_ft j_df (j_SL L) (j_SV xs) j_MT j_EX kc252 mm_X12_choiceTo := wl_of wb252 rfl
theorem wl254 : ck_Val jgd (XL9 θ P) j_ft j_df (j_SL L) (j_SV xs) j_MT j_EX kc254 mm_X12_choiceTo := wl_of wb254 rfl
theorem wl257 : ck_Val jgd (XL9 θ P) j_ft j_df (j_SL L) (j_SV xs) j_MT j_EX kc257 mm_X12_choiceTo := wl_of wb257 rfl
theorem wl259 : ck_Val jgd (XL9 θ P) j_ft j_df (j_SL L) (j_SV xs) j_MT j_EX kc259 mm_X12_choiceTo := wl_of wb259 rfl
theorem wl262 : ck_Val jgd (XL9 θ P) j_ft j_df (j_SL L) (j_SV xs) j_MT j_EX kc262 mm_X12_choiceTo := wl_of wb262 rfl
theorem wl216 : ck_Val jgd (XL9 θ P) j_ft j_df (j_SL L) (j_SV xs) j_MT j_EX kc216 mm_X12_choiceFrom := wl_of wb216 rfl
theorem wl220 : ck_Val jgd (XL9 θ P) j_ft j_df (j_SL L) (j_SV xs) j_MT j_EX kc220 mm_X12_choiceFrom := wl_of wb220 rfl
theorem wl223 : ck_Val jgd (XL9 θ P) j_ft j_df (j_SL L) (j_SV xs) j_MT j_EX kc223 mm_X12_choiceFrom := wl_of wb223 rfl
theorem wl225 : ck_Val jgd (XL9 θ P) j_ft j_df (j_SL L) (j_SV xs) j_MT j_EX kc225 mm_X12_choiceFrom := wl_of wb225 rfl
theorem wl228 : ck_Val jgd (XL9 θ P) j_ft j_df (j_SL L) (j_SV xs) j_MT j_EX kc228 mm_X12_choiceFrom := wl_of wb228 rfl
theorem wl230 : ck_Val jgd (XL9 θ P) j_ft j_df (j_SL L) (j_SV xs) j_MT j_EX kc230 mm_X12_choiceFrom := wl_of wb230 rfl
theorem wl233 : ck_Val jgd (XL9 θ P) j_ft j_df (j_SL L) (j_SV xs) j_MT j_EX kc233 mm_X12_choiceFrom := wl_of wb233 rfl
theorem wl235 : ck_Val jgd (XL9 θ P) j_ft j_df (j_SL L) (j_SV xs) j_MT j_EX kc235 mm_X12_choiceFrom := wl_of wb235 rfl
theorem wl238 : ck_Val jgd (XL9 θ P) j_ft j_df (j_SL L) (j_SV xs) j_MT j_EX kc238 mm_X12_choiceFrom := wl_of wb238 rfl
theorem wl240 : ck_Val jgd (XL9 θ P) j_ft j_df (j_SL L) (j_SV xs) j_MT j_EX kc240 mm_X12_choiceFrom := wl_of wb240 rfl
theorem wl243 : ck_Val jgd (XL9 θ P) j_ft j_df (j_SL L) (j_SV xs) j_MT j_EX kc243 mm_X12_choiceFrom := wl_of wb243 rfl
theorem wl245 : ck_Val jgd (XL9 θ P) j_ft j_df (j_SL L) (j_SV xs) j_MT j_EX kc245 mm_X12_choiceFrom := wl_of wb245 rfl
theorem wl248 : ck_Val jgd (XL9 θ P) j_ft j_df (j_SL L) (j_SV xs) j_MT j_EX kc248 mm_X12_choiceFrom := wl_of wb248 rfl
theorem wl250 : ck_Val jgd (XL9 θ P) j_ft j_df (j_SL L) (j_SV xs) j_MT j_EX kc250 mm_X12_choiceFrom := wl_of wb250 rfl
theorem wl253 : ck_Val jgd (XL9 θ P) j_ft j_df (j_SL L) (j_SV xs) j_MT j_EX kc253 mm_X12_choiceFrom := wl_of wb253 rfl
theorem wl255 : ck_Val jgd (XL9 θ P) j_ft j_df (j_SL L) (j_SV xs) j_MT j_EX kc255 mm_X12_choiceFrom := wl_of wb255 rfl
theorem wl258 : ck_Val jgd (XL9 θ P) j_ft j_df (j_SL L) (j_SV xs) j_MT j_EX kc258 mm_X12_choiceFrom := wl_of wb258 rfl
theorem wl260 : ck_Val jgd (XL9 θ P) j_ft j_df (j_SL L) (j_SV xs) j_MT j_EX kc260 mm_X12_choiceFrom := wl_of wb260 rfl
theorem wl263 : ck_Val jgd (XL9 θ P) j_ft j_df (j_SL L) (j_SV xs) j_MT j_EX kc263 mm_X12_choiceFrom := wl_of wb263 rfl
theorem wl_putLock0 : ck_Val jgd (XL9 θ P) j_ft j_df (j_SL L) (j_SV xs) j_MT j_EX kh_putLock0 mm_X12_putLock := wl_of wb_putLock0 rfl
theorem wl_putLock1 : ck_Val jgd (XL9 θ P) j_ft j_df (j_SL L) (j_SV xs) j_MT j_EX kh_putLock1 mm_X12_putLock := wl_of wb_putLock1 rfl
theorem wl_explore2 : ck_Val jgd (XL9 θ P) j_ft j_df (j_SL L) (j_SV xs) j_MT j_EX kh_explore2 mm_X12_explore := wl_of wb_explore2 rfl
theorem wl203 : ck_Val jgd (XL9 θ P) j_ft j_df (j_SL L) (j_SV xs) j_MT j_EX kc203 mm_X12_isStuck := wl_of wb203 rfl
theorem wl217 : ck_Val jgd (XL9 θ P) j_ft j_df (j_SL L) (j_SV xs) j_MT j_EX kc217 mm_X12_isStuck := wl_of wb217 rfl
theorem wl199 : ck_Val jgd (XL9 θ P) j_ft j_df (j_SL L) (j_SV xs) j_MT j_EX kc199 mm_X12_isEnd := wl_of wb199 rfl
theorem ktl218 : ck_meth jgd jrl j_ft jfa j_MT mm_X12_isGood [] [(177, kh_explore2), (179, kc203), (179, kc217), (178, kc199)] kc218 kq218 4000 8004 = true := by decide +kernel
theorem wl218 : ck_Val jgd (XL9 θ P) j_ft j_df (j_SL L) (j_SV xs) j_MT j_EX kc218 mm_X12_isGood := ck_meth_ok o_HH0 jd_xs jd_RL j_FA (ck_cvc rfl wl_explore2 (ck_cvc rfl wl203 (ck_cvc rfl wl217 (ck_cvc rfl wl199 ck_cvn)))) ktl218
theorem ktl264 : ck_meth jgd jrl j_ft jfa j_MT mm_X12_fix [] [(140, kc172), (140, kc174), (140, kc161), (140, kc163), (140, kc171), (140, kc176), (140, kc195), (140, kc197), (140, kc168), (140, kc170), (143, kc162), (200, kc214), (200, kc221), (200, kc226), (200, kc231), (200, kc236), (200, kc241), (200, kc246), (200, kc251), (200, kc256), (200, kc261), (199, kc215), (199, kc219), (199, kc222), (199, kc224), (199, kc227), (199, kc229), (199, kc232), (199, kc234), (199, kc237), (199, kc239), (199, kc242), (199, kc244), (199, kc247), (199, kc249), (199, kc252), (199, kc254), (199, kc257), (199, kc259), (199, kc262), (198, kc216), (198, kc220), (198, kc223), (198, kc225), (198, kc228), (198, kc230), (198, kc233), (198, kc235), (198, kc238), (198, kc240), (198, kc243), (198, kc245), (198, kc248), (198, kc250), (198, kc253), (198, kc255), (198, kc258), (198, kc260), (198, kc263), (196, kh_putLock0), (196, kh_putLock1), (197, kc218)] kc264 kq264 4000 1570 = true := by decide +kernel
theorem wl264 : ck_Val jgd (XL9 θ P) j_ft j_df (j_SL L) (j_SV xs) j_MT j_EX kc264 mm_X12_fix := ck_meth_ok o_HH0 jd_xs jd_RL j_FA (ck_cvc rfl wl172 (ck_cvc rfl wl174 (ck_cvc rfl wl161 (ck_cvc rfl wl163 (ck_cvc rfl wl171 (ck_cvc rfl wl176 (ck_cvc rfl wl195 (ck_cvc rfl wl197 (ck_cvc rfl wl168 (ck_cvc rfl wl170 (ck_cvc rfl wl162 (ck_cvc rfl wl214 (ck_cvc rfl wl221 (ck_cvc rfl wl226 (ck_cvc rfl wl231 (ck_cvc rfl wl236 (ck_cvc rfl wl241 (ck_cvc rfl wl246 (ck_cvc rfl wl251 (ck_cvc rfl wl256 (ck_cvc rfl wl261 (ck_cvc rfl wl215 (ck_cvc rfl wl219 (ck_cvc rfl wl222 (ck_cvc rfl wl224 (ck_cvc rfl wl227 (ck_cvc rfl wl229 (ck_cvc rfl wl232 (ck_cvc rfl wl234 (ck_cvc rfl wl237 (ck_cvc rfl wl239 (ck_cvc rfl wl242 (ck_cvc rfl wl244 (ck_cvc rfl wl247 (ck_cvc rfl wl249 (ck_cvc rfl wl252 (ck_cvc rfl wl254 (ck_cvc rfl wl257 (ck_cvc rfl wl259 (ck_cvc rfl wl262 (ck_cvc rfl wl216 (ck_cvc rfl wl220 (ck_cvc rfl wl223 (ck_cvc rfl wl225 (ck_cvc rfl wl228 (ck_cvc rfl wl230 (ck_cvc rfl wl233 (ck_cvc rfl wl235 (ck_cvc rfl wl238 (ck_cvc rfl wl240 (ck_cvc rfl wl243 (ck_cvc rfl wl245 (ck_cvc rfl wl248 (ck_cvc rfl wl250 (ck_cvc rfl wl253 (ck_cvc rfl wl255 (ck_cvc rfl wl258 (ck_cvc rfl wl260 (ck_cvc rfl wl263 (ck_cvc rfl wl_putLock0 (ck_cvc rfl wl_putLock1 (ck_cvc rfl wl218 ck_cvn)))))))))))))))))))))))))))))))))))))))))))))))))))))))))))))) ktl264
theorem wl265 : ck_Val jgd (XL9 θ P) j_ft j_df (j_SL L) (j_SV xs) j_MT j_EX kc265 mm_X12_in := wl_of wb265 rfl
theorem ktl268 : ck_meth jgd jrl j_ft jfa j_MT mm_X12_anySpent [] [(180, kc201)] kc268 kq268 4000 6 = true := by decide +kernel
theorem wl268 : ck_Val jgd (XL9 θ P) j_ft j_df (j_SL L) (j_SV xs) j_MT j_EX kc268 mm_X12_anySpent := ck_meth_ok o_HH0 jd_xs jd_RL j_FA (ck_cvc rfl wl201 ck_cvn) ktl268
theorem wl269 : ck_Val jgd (XL9 θ P) j_ft j_df (j_SL L) (j_SV xs) j_MT j_EX kc269 mm_X12_costOf := wl_of wb269 rfl
theorem ktl270 : ck_meth jgd jrl j_ft jfa j_MT mm_X12_cost [] [(140, kc172), (140, kc174), (140, kc161), (140, kc163), (140, kc171), (140, kc176), (140, kc195), (140, kc197), (140, kc265), (140, kc168), (140, kc170), (204, kc268), (205, kc269)] kc270 kq270 4000 1 = true := by decide +kernel
theorem wl270 : ck_Val jgd (XL9 θ P) j_ft j_df (j_SL L) (j_SV xs) j_MT j_EX kc270 mm_X12_cost := ck_meth_ok o_HH0 jd_xs jd_RL j_FA (ck_cvc rfl wl172 (ck_cvc rfl wl174 (ck_cvc rfl wl161 (ck_cvc rfl wl163 (ck_cvc rfl wl171 (ck_cvc rfl wl176 (ck_cvc rfl wl195 (ck_cvc rfl wl197 (ck_cvc rfl wl265 (ck_cvc rfl wl168 (ck_cvc rfl wl170 (ck_cvc rfl wl268 (ck_cvc rfl wl269 ck_cvn))))))))))))) ktl270
theorem wl271 : ck_Val jgd (XL9 θ P) j_ft j_df (j_SL L) (j_SV xs) j_MT j_EX kc271 mm_X12_cheapest := wl_of wb271 rfl
theorem ktl272 : ck_meth jgd jrl j_ft jfa j_MT mm_X12_explain [] [(204, kc268), (207, kc271)] kc272 kq272 4000 1 = true := by decide +kernel
theorem wl272 : ck_Val jgd (XL9 θ P) j_ft j_df (j_SL L) (j_SV xs) j_MT j_EX kc272 mm_X12_explain := ck_meth_ok o_HH0 jd_xs jd_RL j_FA (ck_cvc rfl wl268 (ck_cvc rfl wl271 ck_cvn)) ktl272
theorem ktl273 : ck_meth jgd jrl j_ft jfa j_MT mm_X12_next [] [(204, kc268), (207, kc271)] kc273 kq273 4000 287 = true := by decide +kernel
theorem wl273 : ck_Val jgd (XL9 θ P) j_ft j_df (j_SL L) (j_SV xs) j_MT j_EX kc273 mm_X12_next := ck_meth_ok o_HH0 jd_xs jd_RL j_FA (ck_cvc rfl wl268 (ck_cvc rfl wl271 ck_cvn)) ktl273
theorem wl275 : ck_Val jgd (XL9 θ P) j_ft j_df (j_SL L) (j_SV xs) j_MT j_EX kc275 mm_X12_isShelf := wl_of (wc_of w275 rfl) rfl
theorem wl274 : ck_Val jgd (XL9 θ P) j_ft j_df (j_SL L) (j_SV xs) j_MT j_EX kc274 mm_X12_in := wl_of (wc_of w274 rfl) rfl
theorem wl278 : ck_Val jgd (XL9 θ P) j_ft j_df (j_SL L) (j_SV xs) j_MT j_EX kc278 mm_X12_in := wl_of (wc_of w278 rfl) rfl
theorem wl280 : ck_Val jgd (XL9 θ P) j_ft j_df (j_SL L) (j_SV xs) j_MT j_EX kc280 mm_X12_in := wl_of (wc_of w280 rfl) rfl
theorem ktl281 : ck_meth jgd jrl j_ft jfa j_MT mm_X12_element [] [(210, kc275), (140, kc172), (140, kc174), (140, kc161), (140, kc163), (140, kc171), (140, kc176), (140, kc195), (140, kc197), (140, kc265), (140, kc274), (140, kc278), (140, kc168), (140, kc170), (140, kc280)] kc281 kq281 4000 1 = true := by decide +kernel
theorem wl281 : ck_Val jgd (XL9 θ P) j_ft j_df (j_SL L) (j_SV xs) j_MT j_EX kc281 mm_X12_element := ck_meth_ok o_HH0 jd_xs jd_RL j_FA (ck_cvc rfl wl275 (ck_cvc rfl wl172 (ck_cvc rfl wl174 (ck_cvc rfl wl161 (ck_cvc rfl wl163 (ck_cvc rfl wl171 (ck_cvc rfl wl176 (ck_cvc rfl wl195 (ck_cvc rfl wl197 (ck_cvc rfl wl265 (ck_cvc rfl wl274 (ck_cvc rfl wl278 (ck_cvc rfl wl168 (ck_cvc rfl wl170 (ck_cvc rfl wl280 ck_cvn))))))))))))))) ktl281
theorem wl_step0 : ck_Val jgd (XL9 θ P) j_ft j_df (j_SL L) (j_SV xs) j_MT j_EX kh_step0 mm_X12_step := kl_of wb_step0 (fun r0 as S n ha hE hm hGJ hJ => by
  obtain ⟨hG, hT, hZ9⟩ := gj_ab hGJ
  obtain ⟨w1, as1, rfl, rfl, ha1⟩ := ck_al_c ha
  obtain ⟨w2, as2, rfl, ⟨s, rfl, es⟩, ha2⟩ := ck_al_c ha1
  obtain ⟨w3, as3, rfl, ⟨k, rfl, ek⟩, ha3⟩ := ck_al_c ha2
  cases ck_al_n ha3
  have hn := gs_n hG
  obtain ⟨fs, h46, hf⟩ := gs_obj hG (k := 46) rfl
  change PQ (j_SL L) (j_SV xs) j_EX mm_X12_step 0 [.ref 46, .int s, .int k, pm_un, pm_un, pm_un] [] S n 0 0 _
  have m1 : PQ (j_SL L) (j_SV xs) j_EX mm_X12_step 8 [.ref 46, .int s, .int k, pm_un, pm_un, pm_un] [] S n 0 0 (fun r S' n' => JLn P S') := by
    refine q_iconst rfl rfl ?_
    exact q_iret rfl rfl trivial hJ
  have lk : ∀ S1 : Nat → pm_E, GJ θ P S1 n → JLn P S1 → PM (j_SL L) (j_SV xs) j_EX mm_X12_lacks [.ref 46, .int s] S1 n (fun r S' n' => n' = n ∧ GJ θ P S' n ∧ JLn P S' ∧ ∃ x : Int32, r = some (.int x) ∧ (x = 0 → 0 ≤ s.toInt ∧ s.toInt ≤ 1999)) := by
    intro S1 hG1 hJ1
    refine pm_weak (q_kl wl207 [s.toInt] (gl_ba hG1 hJ1) ⟨rfl, ck_oku rfl rfl, trivial⟩ (ck_en_c (fullI s).1 (fullI s).2 ck_en_n) (fun d hd => by cases hd)) (fun r S9 n9 h => ?_)
    obtain ⟨h1, h2, h3, P9, hp, h4, h5, -⟩ := h
    obtain ⟨g2, g3⟩ := gl_ab h2
    rcases List.mem_cons.mp hp with e | e
    · subst e
      obtain ⟨x, hx, b1, b2⟩ := h5
      exact ⟨h1, g2, g3, x, hx, fun e => by rw [e] at b2; exact absurd b2 (by decide)⟩
    · rw [List.mem_singleton.mp e] at h4 h5
      obtain ⟨x, hx, b1, b2⟩ := h5
      exact ⟨h1, g2, g3, x, hx, fun _ => (ck_en_h h4).1⟩
  refine q_iload_n rfl rfl rfl ?_
  refine q_iflt rfl rfl (fun _ => m1) (fun c1 => ?_)
  refine q_iload_n rfl rfl rfl ?_
  refine q_ifge rfl rfl (fun c2 => ?_) (fun _ => m1)
  refine q_aload_n rfl rfl rfl ?_
  refine q_iload_n rfl rfl rfl ?_
  refine q_cV rfl rfl (Or.inl rfl) rfl rfl rfl rfl (by omega) h46 trivial rfl rfl rfl rfl rfl (lk S hGJ hJ) ?_
  rintro r S1 n1 ⟨rfl, hGJ1, hF1, x, rfl, hx⟩
  have hG1 := (gj_ab hGJ1).1
  obtain ⟨fs1, h461, hf1⟩ := gs_obj hG1 (k := 46) rfl
  show PQ (j_SL L) (j_SV xs) j_EX mm_X12_step 15 _ [.int x] S1 n1 0 0 _
  refine q_ifeq rfl rfl (fun c3 => ?_) (fun c3 => ?_)
  · obtain ⟨s0, s1⟩ := hx c3
    refine q_aload_n rfl rfl rfl ?_
    refine q_iload_n rfl rfl rfl ?_
    obtain ⟨cf, h56, b56⟩ := gs_a1 hG1 (k := 56) rfl
    refine q_cV (K' := fun r S' n' => S' = S1 ∧ n' = n1 ∧ ∃ c : Nat, c ≤ 2000 ∧ LN cf s c ∧ r = some (.int (nI c))) rfl rfl (Or.inl rfl) rfl rfl rfl rfl (by omega) h461 trivial rfl rfl rfl rfl rfl (l_length hn h461 (fo_ref (hf1 12 _ rfl) rfl) h56 b56 (xc_get hn hG1.2 h56) s0 s1 (fun c q1 q2 => ⟨rfl, rfl, c, q1, q2, rfl⟩)) ?_
    rintro r S2 n2 ⟨rfl, rfl, c, hc, hLN, rfl⟩
    show PQ (j_SL L) (j_SV xs) j_EX mm_X12_step 29 _ [.int (nI c)] S2 n2 0 0 _
    have k0 : 0 ≤ k.toInt := by
      rw [Int32.le_iff_toInt_le] at c2
      exact c2
    have kb := (fullI k).2
    have cI : (nI c).toInt = (c : Int) := nI_toInt (by omega)
    have e1 : (nI c - 1).toInt = (c : Int) - 1 := by
      have e : (nI c - 1).toInt = ((nI c).toInt - (1 : Int32).toInt).bmod 4294967296 := Int32.toInt_sub _ _
      rw [e, cI, show (1 : Int32).toInt = 1 from rfl]
      exact ck_bm (by unfold ck_lo; omega) (by unfold ck_hi; omega)
    have e2 : (nI c - 1 - k).toInt = (c : Int) - 1 - k.toInt := by
      have e : (nI c - 1 - k).toInt = ((nI c - 1).toInt - k.toInt).bmod 4294967296 := Int32.toInt_sub _ _
      rw [e, e1]
      exact ck_bm (by unfold ck_lo; omega) (by unfold ck_hi; omega)
    refine q_iconst rfl rfl ?_
    refine q_isub rfl rfl ?_
    refine q_iload_n rfl rfl rfl ?_
    refine q_isub rfl rfl ?_
    refine q_ist3n rfl rfl rfl rfl ?_
    refine q_iload_n rfl rfl rfl ?_
    refine q_ifge rfl rfl (fun c4 => ?_) (fun _ => ?_)
    · have b0 : 0 ≤ (nI c - 1 - k).toInt := by
        rw [Int32.le_iff_toInt_le] at c4
        exact c4
      obtain ⟨B, hB⟩ : ∃ B : Nat, (nI c - 1 - k) = nI B ∧ B < c := ⟨(nI c - 1 - k).toInt.toNat, Int32.toInt_inj.mp (by rw [nI_toInt (by omega)]; omega), by omega⟩
      rw [hB.1]
      have hBc := hB.2
      refine q_iload_n rfl rfl rfl ?_
      refine q_ist4 rfl rfl rfl rfl ?_
      refine q_iconst rfl rfl ?_
      refine q_ist5 rfl rfl rfl rfl ?_
      have key : ∀ m b : Nat, b + m = B → ∀ y : Int32, y = nI b → PQ (j_SL L) (j_SV xs) j_EX mm_X12_step 47 [.ref 46, .int s, .int k, .int (nI B), .int (itc cf s b), .int y] [] S2 n2 0 0 (fun r S' n' => JLn P S') := by
        intro m
        induction m with
        | zero =>
          intro b hb y hy
          have e : b = B := by omega
          subst e
          subst hy
          refine q_iload rfl rfl rfl ?_
          refine q_iload_n rfl rfl rfl ?_
          refine q_icge rfl rfl (fun _ => ?_) (fun c => absurd (Int32.le_refl _) c)
          obtain ⟨cb, h57, -⟩ := gs_arr hG1 (k := 57) rfl
          have hh := hLN.1 b hBc
          refine q_aload_n rfl rfl rfl ?_
          refine q_getf rfl rfl (by omega) h461 (fo_ref (hf1 13 _ rfl) rfl) ?_
          refine q_iload rfl rfl rfl ?_
          refine q_iald rfl rfl (by show 57 < n2; omega) h57 (in_of (by omega) (by omega)) ?_
          exact q_iret rfl rfl trivial hF1
        | succ m ih =>
          intro b hb y hy
          subst hy
          have hh := hLN.1 b (by omega)
          refine q_iload rfl rfl rfl ?_
          refine q_iload_n rfl rfl rfl ?_
          refine q_icge rfl rfl (fun c => absurd c (nI_ge (by omega) (by omega))) (fun _ => ?_)
          refine q_aload_n rfl rfl rfl ?_
          refine q_getf rfl rfl (by omega) h461 (fo_ref (hf1 12 _ rfl) rfl) ?_
          refine q_iload rfl rfl rfl ?_
          refine q_iald rfl rfl (by show 56 < n2; omega) h56 (in_of (by omega) (by omega)) ?_
          refine q_ist4 rfl rfl rfl rfl ?_
          refine q_inc5 rfl rfl rfl rfl ?_
          refine q_goto rfl ?_
          exact ih (b + 1) (by omega) _ (nI_1 b)
      exact key B 0 (by omega) 0 rfl
    · refine q_bipush rfl rfl ?_
      exact q_iret rfl rfl trivial hF1
  · refine q_aload_n rfl rfl rfl ?_
    refine q_iload_n rfl rfl rfl ?_
    refine q_cV rfl rfl (Or.inl rfl) rfl rfl rfl rfl (by omega) h461 trivial rfl rfl rfl rfl rfl (lk S1 hGJ1 hF1) ?_
    rintro r S2 n2 ⟨rfl, hG2, hF2, x2, rfl, -⟩
    exact q_iret rfl rfl trivial hF2)
end LC
