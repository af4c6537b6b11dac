variable {θ : Th}
/-! the contracts once more: printed by wip/ck/gen_he.py -/
section HF
variable {P : PG} {L : Nat} {xs : Nat → Int32}
theorem ktb207 : ck_meth jgb jrl j_ft jfa j_MT mm_X12_lacks [] [(180, kc201)] kc207 kq207 4000 1 = true := by decide +kernel
theorem wb207 : ck_Val jgb (XJ θ P) j_ft j_df (j_SL L) (j_SV xs) j_MT j_EX kc207 mm_X12_lacks := ck_meth_ok o_HH0 jb_xs jb_RL j_FA (ck_cvc rfl wb201 ck_cvn) ktb207
theorem wb_step0 : ck_Val jgb (XJ θ P) j_ft j_df (j_SL L) (j_SV xs) j_MT j_EX kh_step0 mm_X12_step := kj_of w_step0 (fun r0 as S n ha hE hm hG hT hJ => by
  obtain ⟨w1, as1, rfl, rfl, ha1⟩ := ck_al_c ha
  obtain ⟨w2, as2, rfl, ⟨s, rfl, es⟩, ha2⟩ := ck_al_c ha1
  obtain ⟨w3, as3, rfl, ⟨k, rfl, ek⟩, ha3⟩ := ck_al_c ha2
  cases ck_al_n ha3
  have fin : ∀ (x : Int32) (S' : Nat → pm_E) (m : Nat), JZ P S' → (fun r S' n' => JZ P S' : q_K) (some (.int x)) S' m := fun _ _ _ h => h
  have hn := gs_n hG
  obtain ⟨fs, h46, hf⟩ := gs_obj hG (k := 46) rfl
  change PQ (j_SL L) (j_SV xs) j_EX mm_X12_step 0 [.ref 46, .int s, .int k, pm_un, pm_un, pm_un] [] S n 0 0 _
  have m1 : PQ (j_SL L) (j_SV xs) j_EX mm_X12_step 8 [.ref 46, .int s, .int k, pm_un, pm_un, pm_un] [] S n 0 0 (fun r S' n' => JZ P S') := by
    refine q_iconst rfl rfl ?_
    exact q_iret rfl rfl trivial hJ
  have lk : ∀ S1 : Nat → pm_E, GS θ S1 n → JZ P S1 → PM (j_SL L) (j_SV xs) j_EX mm_X12_lacks [.ref 46, .int s] S1 n (fun r S' n' => n' = n ∧ GS θ S' n ∧ JZ P S' ∧ ∃ x : Int32, r = some (.int x) ∧ (x = 0 → 0 ≤ s.toInt ∧ s.toInt ≤ 1999)) := by
    intro S1 hG1 hJ1
    refine pm_weak (q_kj wb207 [s.toInt] (gj_ba hG1 hT hJ1) ⟨rfl, ck_oku rfl rfl, trivial⟩ (ck_en_c (fullI s).1 (fullI s).2 ck_en_n) (fun d hd => by cases hd)) (fun r S9 n9 h => ?_)
    obtain ⟨h1, h2, h3, P9, hp, h4, h5, -⟩ := h
    obtain ⟨g2, -, g3⟩ := gj_ab h2
    rcases List.mem_cons.mp hp with e | e
    · subst e
      obtain ⟨x, hx, b1, b2⟩ := h5
      exact ⟨h1, g2, g3, x, hx, fun e => by rw [e] at b2; exact absurd b2 (by decide)⟩
    · rw [List.mem_singleton.mp e] at h4 h5
      obtain ⟨x, hx, b1, b2⟩ := h5
      exact ⟨h1, g2, g3, x, hx, fun _ => (ck_en_h h4).1⟩
  refine q_iload_n rfl rfl rfl ?_
  refine q_iflt rfl rfl (fun _ => m1) (fun c1 => ?_)
  refine q_iload_n rfl rfl rfl ?_
  refine q_ifge rfl rfl (fun c2 => ?_) (fun _ => m1)
  refine q_aload_n rfl rfl rfl ?_
  refine q_iload_n rfl rfl rfl ?_
  refine q_cV rfl rfl (Or.inl rfl) rfl rfl rfl rfl (by omega) h46 trivial rfl rfl rfl rfl rfl (lk S hG hJ) ?_
  rintro r S1 n1 ⟨rfl, hG1, hF1, x, rfl, hx⟩
  obtain ⟨fs1, h461, hf1⟩ := gs_obj hG1 (k := 46) rfl
  show PQ (j_SL L) (j_SV xs) j_EX mm_X12_step 15 _ [.int x] S1 n1 0 0 _
  refine q_ifeq rfl rfl (fun c3 => ?_) (fun c3 => ?_)
  · obtain ⟨s0, s1⟩ := hx c3
    refine q_aload_n rfl rfl rfl ?_
    refine q_iload_n rfl rfl rfl ?_
    obtain ⟨cf, h56, b56⟩ := gs_a1 hG1 (k := 56) rfl
    refine q_cV (K' := fun r S' n' => S' = S1 ∧ n' = n1 ∧ ∃ c : Nat, c ≤ 2000 ∧ LN cf s c ∧ r = some (.int (nI c))) rfl rfl (Or.inl rfl) rfl rfl rfl rfl (by omega) h461 trivial rfl rfl rfl rfl rfl (l_length hn h461 (fo_ref (hf1 12 _ rfl) rfl) h56 b56 (xc_get hn hG1.2 h56) s0 s1 (fun c q1 q2 => ⟨rfl, rfl, c, q1, q2, rfl⟩)) ?_
    rintro r S2 n2 ⟨rfl, rfl, c, hc, hLN, rfl⟩
    show PQ (j_SL L) (j_SV xs) j_EX mm_X12_step 29 _ [.int (nI c)] S2 n2 0 0 _
    have k0 : 0 ≤ k.toInt := by
      rw [Int32.le_iff_toInt_le] at c2
      exact c2
    have kb := (fullI k).2
    have cI : (nI c).toInt = (c : Int) := nI_toInt (by omega)
    have e1 : (nI c - 1).toInt = (c : Int) - 1 := by
      have e : (nI c - 1).toInt = ((nI c).toInt - (1 : Int32).toInt).bmod 4294967296 := Int32.toInt_sub _ _
      rw [e, cI, show (1 : Int32).toInt = 1 from rfl]
      exact ck_bm (by unfold ck_lo; omega) (by unfold ck_hi; omega)
    have e2 : (nI c - 1 - k).toInt = (c : Int) - 1 - k.toInt := by
      have e : (nI c - 1 - k).toInt = ((nI c - 1).toInt - k.toInt).bmod 4294967296 := Int32.toInt_sub _ _
      rw [e, e1]
      exact ck_bm (by unfold ck_lo; omega) (by unfold ck_hi; omega)
    refine q_iconst rfl rfl ?_
    refine q_isub rfl rfl ?_
    refine q_iload_n rfl rfl rfl ?_
    refine q_isub rfl rfl ?_
    refine q_ist3n rfl rfl rfl rfl ?_
    refine q_iload_n rfl rfl rfl ?_
    refine q_ifge rfl rfl (fun c4 => ?_) (fun _ => ?_)
    · have b0 : 0 ≤ (nI c - 1 - k).toInt := by
        rw [Int32.le_iff_toInt_le] at c4
        exact c4
      obtain ⟨B, hB⟩ : ∃ B : Nat, (nI c - 1 - k) = nI B ∧ B < c := ⟨(nI c - 1 - k).toInt.toNat, Int32.toInt_inj.mp (by rw [nI_toInt (by omega)]; omega), by omega⟩
      rw [hB.1]
      have hBc := hB.2
      refine q_iload_n rfl rfl rfl ?_
      refine q_ist4 rfl rfl rfl rfl ?_
      refine q_iconst rfl rfl ?_
      refine q_ist5 rfl rfl rfl rfl ?_
      have key : ∀ m b : Nat, b + m = B → ∀ y : Int32, y = nI b → PQ (j_SL L) (j_SV xs) j_EX mm_X12_step 47 [.ref 46, .int s, .int k, .int (nI B), .int (itc cf s b), .int y] [] S2 n2 0 0 (fun r S' n' => JZ P S') := by
        intro m
        induction m with
        | zero =>
          intro b hb y hy
          have e : b = B := by omega
          subst e
          subst hy
          refine q_iload rfl rfl rfl ?_
          refine q_iload_n rfl rfl rfl ?_
          refine q_icge rfl rfl (fun _ => ?_) (fun c => absurd (Int32.le_refl _) c)
          obtain ⟨cb, h57, -⟩ := gs_arr hG1 (k := 57) rfl
          have hh := hLN.1 b hBc
          refine q_aload_n rfl rfl rfl ?_
          refine q_getf rfl rfl (by omega) h461 (fo_ref (hf1 13 _ rfl) rfl) ?_
          refine q_iload rfl rfl rfl ?_
          refine q_iald rfl rfl (by show 57 < n2; omega) h57 (in_of (by omega) (by omega)) ?_
          exact q_iret rfl rfl trivial hF1
        | succ m ih =>
          intro b hb y hy
          subst hy
          have hh := hLN.1 b (by omega)
          refine q_iload rfl rfl rfl ?_
          refine q_iload_n rfl rfl rfl ?_
          refine q_icge rfl rfl (fun c => absurd c (nI_ge (by omega) (by omega))) (fun _ => ?_)
          refine q_aload_n rfl rfl rfl ?_
          refine q_getf rfl rfl (by omega) h461 (fo_ref (hf1 12 _ rfl) rfl) ?_
          refine q_iload rfl rfl rfl ?_
          refine q_iald rfl rfl (by show 56 < n2; omega) h56 (in_of (by omega) (by omega)) ?_
          refine q_ist4 rfl rfl rfl rfl ?_
          refine q_inc5 rfl rfl rfl rfl ?_
          refine q_goto rfl ?_
          exact ih (b + 1) (by omega) _ (nI_1 b)
      exact key B 0 (by omega) 0 rfl
    · refine q_bipush rfl rfl ?_
      exact q_iret rfl rfl trivial hF1
  · refine q_aload_n rfl rfl rfl ?_
    refine q_iload_n rfl rfl rfl ?_
    refine q_cV rfl rfl (Or.inl rfl) rfl rfl rfl rfl (by omega) h461 trivial rfl rfl rfl rfl rfl (lk S1 hG1 hF1) ?_
    rintro r S2 n2 ⟨rfl, hG2, hF2, x2, rfl, -⟩
    exact q_iret rfl rfl trivial hF2)
theorem wb172 : ck_Val jgb (XJ θ P) j_ft j_df (j_SL L) (j_SV xs) j_MT j_EX kc172 mm_X12_in := wc_of w172 rfl
theorem wb174 : ck_Val jgb (XJ θ P) j_ft j_df (j_SL L) (j_SV xs) j_MT j_EX kc174 mm_X12_in := wc_of w174 rfl
theorem wb161 : ck_Val jgb (XJ θ P) j_ft j_df (j_SL L) (j_SV xs) j_MT j_EX kc161 mm_X12_in := wc_of w161 rfl
theorem wb163 : ck_Val jgb (XJ θ P) j_ft j_df (j_SL L) (j_SV xs) j_MT j_EX kc163 mm_X12_in := wc_of w163 rfl
theorem wb171 : ck_Val jgb (XJ θ P) j_ft j_df (j_SL L) (j_SV xs) j_MT j_EX kc171 mm_X12_in := wc_of w171 rfl
theorem wb176 : ck_Val jgb (XJ θ P) j_ft j_df (j_SL L) (j_SV xs) j_MT j_EX kc176 mm_X12_in := wc_of w176 rfl
theorem wb195 : ck_Val jgb (XJ θ P) j_ft j_df (j_SL L) (j_SV xs) j_MT j_EX kc195 mm_X12_in := wc_of w195 rfl
theorem wb197 : ck_Val jgb (XJ θ P) j_ft j_df (j_SL L) (j_SV xs) j_MT j_EX kc197 mm_X12_in := wc_of w197 rfl
theorem wb168 : ck_Val jgb (XJ θ P) j_ft j_df (j_SL L) (j_SV xs) j_MT j_EX kc168 mm_X12_in := wc_of w168 rfl
theorem wb170 : ck_Val jgb (XJ θ P) j_ft j_df (j_SL L) (j_SV xs) j_MT j_EX kc170 mm_X12_in := wc_of w170 rfl
theorem ktb202 : ck_meth jgb jrl j_ft jfa j_MT mm_X12_states [] [(140, kc172), (140, kc174), (140, kc161), (140, kc163), (140, kc171), (140, kc176), (140, kc195), (140, kc197), (140, kc168), (140, kc170), (180, kc201)] kc202 kq202 4000 1 = true := by decide +kernel
theorem wb202 : ck_Val jgb (XJ θ P) j_ft j_df (j_SL L) (j_SV xs) j_MT j_EX kc202 mm_X12_states := ck_meth_ok o_HH0 jb_xs jb_RL j_FA (ck_cvc rfl wb172 (ck_cvc rfl wb174 (ck_cvc rfl wb161 (ck_cvc rfl wb163 (ck_cvc rfl wb171 (ck_cvc rfl wb176 (ck_cvc rfl wb195 (ck_cvc rfl wb197 (ck_cvc rfl wb168 (ck_cvc rfl wb170 (ck_cvc rfl wb201 ck_cvn))))))))))) ktb202
theorem wb_findBacks0 : ck_Val jgb (XJ θ P) j_ft j_df (j_SL L) (j_SV xs) j_MT j_EX kh_findBacks0 mm_X12_findBacks := wc_of w_findBacks0 rfl
theorem wb204 : ck_Val jgb (XJ θ P) j_ft j_df (j_SL L) (j_SV xs) j_MT j_EX kc204 mm_X12_isSuch := wc_of w204 rfl
theorem ktb205 : ck_meth jgb jrl j_ft jfa j_MT mm_X12_count [] [(140, kc172), (140, kc174), (140, kc161), (140, kc163), (140, kc171), (140, kc176), (140, kc195), (140, kc197), (140, kc168), (140, kc170), (180, kc201), (182, kh_findBacks0), (183, kc204)] kc205 kq205 4000 2001 = true := by decide +kernel
theorem wb205 : ck_Val jgb (XJ θ P) j_ft j_df (j_SL L) (j_SV xs) j_MT j_EX kc205 mm_X12_count := ck_meth_ok o_HH0 jb_xs jb_RL j_FA (ck_cvc rfl wb172 (ck_cvc rfl wb174 (ck_cvc rfl wb161 (ck_cvc rfl wb163 (ck_cvc rfl wb171 (ck_cvc rfl wb176 (ck_cvc rfl wb195 (ck_cvc rfl wb197 (ck_cvc rfl wb168 (ck_cvc rfl wb170 (ck_cvc rfl wb201 (ck_cvc rfl wb_findBacks0 (ck_cvc rfl wb204 ck_cvn))))))))))))) ktb205
theorem ktb206 : ck_meth jgb jrl j_ft jfa j_MT mm_X12_nth [] [(140, kc172), (140, kc174), (140, kc161), (140, kc163), (140, kc171), (140, kc176), (140, kc195), (140, kc197), (140, kc168), (140, kc170), (180, kc201), (182, kh_findBacks0), (183, kc204)] kc206 kq206 4000 2001 = true := by decide +kernel
theorem wb206 : ck_Val jgb (XJ θ P) j_ft j_df (j_SL L) (j_SV xs) j_MT j_EX kc206 mm_X12_nth := ck_meth_ok o_HH0 jb_xs jb_RL j_FA (ck_cvc rfl wb172 (ck_cvc rfl wb174 (ck_cvc rfl wb161 (ck_cvc rfl wb163 (ck_cvc rfl wb171 (ck_cvc rfl wb176 (ck_cvc rfl wb195 (ck_cvc rfl wb197 (ck_cvc rfl wb168 (ck_cvc rfl wb170 (ck_cvc rfl wb201 (ck_cvc rfl wb_findBacks0 (ck_cvc rfl wb204 ck_cvn))))))))))))) ktb206
theorem wb_length0 : ck_Val jgb (XJ θ P) j_ft j_df (j_SL L) (j_SV xs) j_MT j_EX kh_length0 mm_X12_length := wc_of w_length0 rfl
theorem ktb208 : ck_meth jgb jrl j_ft jfa j_MT mm_X12_way [] [(186, kc207), (187, kh_length0)] kc208 kq208 4000 1 = true := by decide +kernel
theorem wb208 : ck_Val jgb (XJ θ P) j_ft j_df (j_SL L) (j_SV xs) j_MT j_EX kc208 mm_X12_way := ck_meth_ok o_HH0 jb_xs jb_RL j_FA (ck_cvc rfl wb207 (ck_cvc rfl wb_length0 ck_cvn)) ktb208
theorem wb198 : ck_Val jgb (XJ θ P) j_ft j_df (j_SL L) (j_SV xs) j_MT j_EX kc198 mm_X12_standAt := wc_of w198 rfl
theorem wb200 : ck_Val jgb (XJ θ P) j_ft j_df (j_SL L) (j_SV xs) j_MT j_EX kc200 mm_X12_standAt := wc_of w200 rfl
theorem wb180 : ck_Val jgb (XJ θ P) j_ft j_df (j_SL L) (j_SV xs) j_MT j_EX kc180 mm_X12_settle := wc_of w180 rfl
theorem ktb209 : ck_meth jgb jrl j_ft jfa j_MT mm_X12_lead [] [(186, kc207), (176, kc198), (176, kc200), (169, kc180)] kc209 kq209 4000 1 = true := by decide +kernel
theorem wb209 : ck_Val jgb (XJ θ P) j_ft j_df (j_SL L) (j_SV xs) j_MT j_EX kc209 mm_X12_lead := ck_meth_ok o_HH0 jb_xs jb_RL j_FA (ck_cvc rfl wb207 (ck_cvc rfl wb198 (ck_cvc rfl wb200 (ck_cvc rfl wb180 ck_cvn)))) ktb209
theorem wb169 : ck_Val jgb (XJ θ P) j_ft j_df (j_SL L) (j_SV xs) j_MT j_EX kc169 mm_X12_isHand := wc_of w169 rfl
theorem wb187 : ck_Val jgb (XJ θ P) j_ft j_df (j_SL L) (j_SV xs) j_MT j_EX kc187 mm_X12_canStep := wc_of w187 rfl
theorem wb210 : ck_Val jgb (XJ θ P) j_ft j_df (j_SL L) (j_SV xs) j_MT j_EX kc210 mm_X12_touches := wc_of w210 rfl
theorem ktb211 : ck_meth jgb jrl j_ft jfa j_MT mm_X12_race [] [(142, kc169), (180, kc201), (176, kc198), (176, kc200), (159, kc187), (191, kc210)] kc211 kq211 4000 2001 = true := by decide +kernel
theorem wb211 : ck_Val jgb (XJ θ P) j_ft j_df (j_SL L) (j_SV xs) j_MT j_EX kc211 mm_X12_race := ck_meth_ok o_HH0 jb_xs jb_RL j_FA (ck_cvc rfl wb169 (ck_cvc rfl wb201 (ck_cvc rfl wb198 (ck_cvc rfl wb200 (ck_cvc rfl wb187 (ck_cvc rfl wb210 ck_cvn)))))) ktb211
theorem wb162 : ck_Val jgb (XJ θ P) j_ft j_df (j_SL L) (j_SV xs) j_MT j_EX kc162 mm_X12_isPlace := wc_of w162 rfl
theorem ktb212 : ck_meth jgb jrl j_ft jfa j_MT mm_X12_always [] [(142, kc169), (140, kc172), (140, kc174), (140, kc161), (140, kc163), (140, kc171), (140, kc176), (140, kc195), (140, kc197), (140, kc168), (140, kc170), (143, kc162), (180, kc201), (176, kc198), (176, kc200)] kc212 kq212 4000 2001 = true := by decide +kernel
theorem wb212 : ck_Val jgb (XJ θ P) j_ft j_df (j_SL L) (j_SV xs) j_MT j_EX kc212 mm_X12_always := ck_meth_ok o_HH0 jb_xs jb_RL j_FA (ck_cvc rfl wb169 (ck_cvc rfl wb172 (ck_cvc rfl wb174 (ck_cvc rfl wb161 (ck_cvc rfl wb163 (ck_cvc rfl wb171 (ck_cvc rfl wb176 (ck_cvc rfl wb195 (ck_cvc rfl wb197 (ck_cvc rfl wb168 (ck_cvc rfl wb170 (ck_cvc rfl wb162 (ck_cvc rfl wb201 (ck_cvc rfl wb198 (ck_cvc rfl wb200 ck_cvn))))))))))))))) ktb212
theorem ktb213 : ck_meth jgb jrl j_ft jfa j_MT mm_X12_can [] [(140, kc172), (140, kc174), (140, kc161), (140, kc163), (140, kc171), (140, kc176), (140, kc195), (140, kc197), (140, kc168), (140, kc170), (143, kc162), (180, kc201)] kc213 kq213 4000 1 = true := by decide +kernel
theorem wb213 : ck_Val jgb (XJ θ P) j_ft j_df (j_SL L) (j_SV xs) j_MT j_EX kc213 mm_X12_can := ck_meth_ok o_HH0 jb_xs jb_RL j_FA (ck_cvc rfl wb172 (ck_cvc rfl wb174 (ck_cvc rfl wb161 (ck_cvc rfl wb163 (ck_cvc rfl wb171 (ck_cvc rfl wb176 (ck_cvc rfl wb195 (ck_cvc rfl wb197 (ck_cvc rfl wb168 (ck_cvc rfl wb170 (ck_cvc rfl wb162 (ck_cvc rfl wb201 ck_cvn)))))))))))) ktb213
theorem wb214 : ck_Val jgb (XJ θ P) j_ft j_df (j_SL L) (j_SV xs) j_MT j_EX kc214 mm_X12_within := wc_of w214 rfl
theorem wb221 : ck_Val jgb (XJ θ P) j_ft j_df (j_SL L) (j_SV xs) j_MT j_EX kc221 mm_X12_within := wc_of w221 rfl
theorem wb226 : ck_Val jgb (XJ θ P) j_ft j_df (j_SL L) (j_SV xs) j_MT j_EX kc226 mm_X12_within := wc_of w226 rfl
theorem wb231 : ck_Val jgb (XJ θ P) j_ft j_df (j_SL L) (j_SV xs) j_MT j_EX kc231 mm_X12_within := wc_of w231 rfl
theorem wb236 : ck_Val jgb (XJ θ P) j_ft j_df (j_SL L) (j_SV xs) j_MT j_EX kc236 mm_X12_within := wc_of w236 rfl
theorem wb241 : ck_Val jgb (XJ θ P) j_ft j_df (j_SL L) (j_SV xs) j_MT j_EX kc241 mm_X12_within := wc_of w241 rfl
theorem wb246 : ck_Val jgb (XJ θ P) j_ft j_df (j_SL L) (j_SV xs) j_MT j_EX kc246 mm_X12_within := wc_of w246 rfl
theorem wb251 : ck_Val jgb (XJ θ P) j_ft j_df (j_SL L) (j_SV xs) j_MT j_EX kc251 mm_X12_within := wc_of w251 rfl
theorem wb256 : ck_Val jgb (XJ θ P) j_ft j_df (j_SL L) (j_SV xs) j_MT j_EX kc256 mm_X12_within := wc_of w256 rfl
theorem wb261 : ck_Val jgb (XJ θ P) j_ft j_df (j_SL L) (j_SV xs) j_MT j_EX kc261 mm_X12_within := wc_of w261 rfl
theorem wb215 : ck_Val jgb (XJ θ P) j_ft j_df (j_SL L) (j_SV xs) j_MT j_EX kc215 mm_X12_choiceTo := wc_of w215 rfl
theorem wb219 : ck_Val jgb (XJ θ P) j_ft j_df (j_SL L) (j_SV xs) j_MT j_EX kc219 mm_X12_choiceTo := wc_of w219 rfl
theorem wb222 : ck_Val jgb (XJ θ P) j_ft j_df (j_SL L) (j_SV xs) j_MT j_EX kc222 mm_X12_choiceTo := wc_of w222 rfl
theorem wb224 : ck_Val jgb (XJ θ P) j_ft j_df (j_SL L) (j_SV xs) j_MT j_EX kc224 mm_X12_choiceTo := wc_of w224 rfl
theorem wb227 : ck_Val jgb (XJ θ P) j_ft j_df (j_SL L) (j_SV xs) j_MT j_EX kc227 mm_X12_choiceTo := wc_of w227 rfl
theorem wb229 : ck_Val jgb (XJ θ P) j_ft j_df (j_SL L) (j_SV xs) j_MT j_EX kc229 mm_X12_choiceTo := wc_of w229 rfl
theorem wb232 : ck_Val jgb (XJ θ P) j_ft j_df (j_SL L) (j_SV xs) j_MT j_EX kc232 mm_X12_choiceTo := wc_of w232 rfl
theorem wb234 : ck_Val jgb (XJ θ P) j_ft j_df (j_SL L) (j_SV xs) j_MT j_EX kc234 mm_X12_choiceTo := wc_of w234 rfl
theorem wb237 : ck_Val jgb (XJ θ P) j_ft j_df (j_SL L) (j_SV xs) j_MT j_EX kc237 mm_X12_choiceTo := wc_of w237 rfl
theorem wb239 : ck_Val jgb (XJ θ P) j_ft j_df (j_SL L) (j_SV xs) j_MT j_EX kc239 mm_X12_choiceTo := wc_of w239 rfl
theorem wb242 : ck_Val jgb (XJ θ P) j_ft j_df (j_SL L) (j_SV xs) j_MT j_EX kc242 mm_X12_choiceTo := wc_of w242 rfl
theorem wb244 : ck_Val jgb (XJ θ P) j_ft j_df (j_SL L) (j_SV xs) j_MT j_EX kc244 mm_X12_choiceTo := wc_of w244 rfl
theorem wb247 : ck_Val jgb (XJ θ P) j_ft j_df (j_SL L) (j_SV xs) j_MT j_EX kc247 mm_X12_choiceTo := wc_of w247 rfl
theorem wb249 : ck_Val jgb (XJ θ P) j_ft j_df (j_SL L) (j_SV xs) j_MT j_EX kc249 mm_X12_choiceTo := wc_of w249 rfl
theorem wb252 : ck_Val jgb (XJ θ P) j_ft j_df (j_SL L) (j_SV xs) j_MT j_EX kc252 mm_X12_choiceTo := wc_of w252 rfl
theorem wb254 : ck_Val jgb (XJ θ P) j_ft j_df (j_SL L) (j_SV xs) j_MT j_EX kc254 mm_X12_choiceTo := wc_of w254 rfl
theorem wb257 : ck_Val jgb (XJ θ P) j_ft j_df (j_SL L) (j_SV xs) j_MT j_EX kc257 mm_X12_choiceTo := wc_of w257 rfl
theorem wb259 : ck_Val jgb (XJ θ P) j_ft j_df (j_SL L) (j_SV xs) j_MT j_EX kc259 mm_X12_choiceTo := wc_of w259 rfl
theorem wb262 : ck_Val jgb (XJ θ P) j_ft j_df (j_SL L) (j_SV xs) j_MT j_EX kc262 mm_X12_choiceTo := wc_of w262 rfl
theorem wb216 : ck_Val jgb (XJ θ P) j_ft j_df (j_SL L) (j_SV xs) j_MT j_EX kc216 mm_X12_choiceFrom := wc_of w216 rfl
theorem wb220 : ck_Val jgb (XJ θ P) j_ft j_df (j_SL L) (j_SV xs) j_MT j_EX kc220 mm_X12_choiceFrom := wc_of w220 rfl
theorem wb223 : ck_Val jgb (XJ θ P) j_ft j_df (j_SL L) (j_SV xs) j_MT j_EX kc223 mm_X12_choiceFrom := wc_of w223 rfl
theorem wb225 : ck_Val jgb (XJ θ P) j_ft j_df (j_SL L) (j_SV xs) j_MT j_EX kc225 mm_X12_choiceFrom := wc_of w225 rfl
theorem wb228 : ck_Val jgb (XJ θ P) j_ft j_df (j_SL L) (j_SV xs) j_MT j_EX kc228 mm_X12_choiceFrom := wc_of w228 rfl
theorem wb230 : ck_Val jgb (XJ θ P) j_ft j_df (j_SL L) (j_SV xs) j_MT j_EX kc230 mm_X12_choiceFrom := wc_of w230 rfl
theorem wb233 : ck_Val jgb (XJ θ P) j_ft j_df (j_SL L) (j_SV xs) j_MT j_EX kc233 mm_X12_choiceFrom := wc_of w233 rfl
theorem wb235 : ck_Val jgb (XJ θ P) j_ft j_df (j_SL L) (j_SV xs) j_MT j_EX kc235 mm_X12_choiceFrom := wc_of w235 rfl
theorem wb238 : ck_Val jgb (XJ θ P) j_ft j_df (j_SL L) (j_SV xs) j_MT j_EX kc238 mm_X12_choiceFrom := wc_of w238 rfl
theorem wb240 : ck_Val jgb (XJ θ P) j_ft j_df (j_SL L) (j_SV xs) j_MT j_EX kc240 mm_X12_choiceFrom := wc_of w240 rfl
theorem wb243 : ck_Val jgb (XJ θ P) j_ft j_df (j_SL L) (j_SV xs) j_MT j_EX kc243 mm_X12_choiceFrom := wc_of w243 rfl
theorem wb245 : ck_Val jgb (XJ θ P) j_ft j_df (j_SL L) (j_SV xs) j_MT j_EX kc245 mm_X12_choiceFrom := wc_of w245 rfl
theorem wb248 : ck_Val jgb (XJ θ P) j_ft j_df (j_SL L) (j_SV xs) j_MT j_EX kc248 mm_X12_choiceFrom := wc_of w248 rfl
theorem wb250 : ck_Val jgb (XJ θ P) j_ft j_df (j_SL L) (j_SV xs) j_MT j_EX kc250 mm_X12_choiceFrom := wc_of w250 rfl
theorem wb253 : ck_Val jgb (XJ θ P) j_ft j_df (j_SL L) (j_SV xs) j_MT j_EX kc253 mm_X12_choiceFrom := wc_of w253 rfl
theorem wb255 : ck_Val jgb (XJ θ P) j_ft j_df (j_SL L) (j_SV xs) j_MT j_EX kc255 mm_X12_choiceFrom := wc_of w255 rfl
theorem wb258 : ck_Val jgb (XJ θ P) j_ft j_df (j_SL L) (j_SV xs) j_MT j_EX kc258 mm_X12_choiceFrom := wc_of w258 rfl
theorem wb260 : ck_Val jgb (XJ θ P) j_ft j_df (j_SL L) (j_SV xs) j_MT j_EX kc260 mm_X12_choiceFrom := wc_of w260 rfl
theorem wb263 : ck_Val jgb (XJ θ P) j_ft j_df (j_SL L) (j_SV xs) j_MT j_EX kc263 mm_X12_choiceFrom := wc_of w263 rfl
theorem wb_putLock0 : ck_Val jgb (XJ θ P) j_ft j_df (j_SL L) (j_SV xs) j_MT j_EX kh_putLock0 mm_X12_putLock := wc_of w_putLock0 rfl
theorem wb_putLock1 : ck_Val jgb (XJ θ P) j_ft j_df (j_SL L) (j_SV xs) j_MT j_EX kh_putLock1 mm_X12_putLock := wc_of w_putLock1 rfl
theorem wb203 : ck_Val jgb (XJ θ P) j_ft j_df (j_SL L) (j_SV xs) j_MT j_EX kc203 mm_X12_isStuck := wc_of w203 rfl
theorem wb217 : ck_Val jgb (XJ θ P) j_ft j_df (j_SL L) (j_SV xs) j_MT j_EX kc217 mm_X12_isStuck := wc_of w217 rfl
theorem wb199 : ck_Val jgb (XJ θ P) j_ft j_df (j_SL L) (j_SV xs) j_MT j_EX kc199 mm_X12_isEnd := wc_of w199 rfl
theorem ktb218 : ck_meth jgb jrl j_ft jfa j_MT mm_X12_isGood [] [(177, kh_explore2), (179, kc203), (179, kc217), (178, kc199)] kc218 kq218 4000 8004 = true := by decide +kernel
theorem wb218 : ck_Val jgb (XJ θ P) j_ft j_df (j_SL L) (j_SV xs) j_MT j_EX kc218 mm_X12_isGood := ck_meth_ok o_HH0 jb_xs jb_RL j_FA (ck_cvc rfl wb_explore2 (ck_cvc rfl wb203 (ck_cvc rfl wb217 (ck_cvc rfl wb199 ck_cvn)))) ktb218
theorem ktb264 : ck_meth jgb jrl j_ft jfa j_MT mm_X12_fix [] [(140, kc172), (140, kc174), (140, kc161), (140, kc163), (140, kc171), (140, kc176), (140, kc195), (140, kc197), (140, kc168), (140, kc170), (143, kc162), (200, kc214), (200, kc221), (200, kc226), (200, kc231), (200, kc236), (200, kc241), (200, kc246), (200, kc251), (200, kc256), (200, kc261), (199, kc215), (199, kc219), (199, kc222), (199, kc224), (199, kc227), (199, kc229), (199, kc232), (199, kc234), (199, kc237), (199, kc239), (199, kc242), (199, kc244), (199, kc247), (199, kc249), (199, kc252), (199, kc254), (199, kc257), (199, kc259), (199, kc262), (198, kc216), (198, kc220), (198, kc223), (198, kc225), (198, kc228), (198, kc230), (198, kc233), (198, kc235), (198, kc238), (198, kc240), (198, kc243), (198, kc245), (198, kc248), (198, kc250), (198, kc253), (198, kc255), (198, kc258), (198, kc260), (198, kc263), (196, kh_putLock0), (196, kh_putLock1), (197, kc218)] kc264 kq264 4000 1570 = true := by decide +kernel
theorem wb264 : ck_Val jgb (XJ θ P) j_ft j_df (j_SL L) (j_SV xs) j_MT j_EX kc264 mm_X12_fix := ck_meth_ok o_HH0 jb_xs jb_RL j_FA (ck_cvc rfl wb172 (ck_cvc rfl wb174 (ck_cvc rfl wb161 (ck_cvc rfl wb163 (ck_cvc rfl wb171 (ck_cvc rfl wb176 (ck_cvc rfl wb195 (ck_cvc rfl wb197 (ck_cvc rfl wb168 (ck_cvc rfl wb170 (ck_cvc rfl wb162 (ck_cvc rfl wb214 (ck_cvc rfl wb221 (ck_cvc rfl wb226 (ck_cvc rfl wb231 (ck_cvc rfl wb236 (ck_cvc rfl wb241 (ck_cvc rfl wb246 (ck_cvc rfl wb251 (ck_cvc rfl wb256 (ck_cvc rfl wb261 (ck_cvc rfl wb215 (ck_cvc rfl wb219 (ck_cvc rfl wb222 (ck_cvc rfl wb224 (ck_cvc rfl wb227 (ck_cvc rfl wb229 (ck_cvc rfl wb232 (ck_cvc rfl wb234 (ck_cvc rfl wb237 (ck_cvc rfl wb239 (ck_cvc rfl wb242 (ck_cvc rfl wb244 (ck_cvc rfl wb247 (ck_cvc rfl wb249 (ck_cvc rfl wb252 (ck_cvc rfl wb254 (ck_cvc rfl wb257 (ck_cvc rfl wb259 (ck_cvc rfl wb262 (ck_cvc rfl wb216 (ck_cvc rfl wb220 (ck_cvc rfl wb223 (ck_cvc rfl wb225 (ck_cvc rfl wb228 (ck_cvc rfl wb230 (ck_cvc rfl wb233 (ck_cvc rfl wb235 (ck_cvc rfl wb238 (ck_cvc rfl wb240 (ck_cvc rfl wb243 (ck_cvc rfl wb245 (ck_cvc rfl wb248 (ck_cvc rfl wb250 (ck_cvc rfl wb253 (ck_cvc rfl wb255 (ck_cvc rfl wb258 (ck_cvc rfl wb260 (ck_cvc rfl wb263 (ck_cvc rfl wb_putLock0 (ck_cvc rfl wb_putLock1 (ck_cvc rfl wb218 ck_cvn)))))))))))))))))))))))))))))))))))))))))))))))))))))))))))))) ktb264
theorem wb265 : ck_Val jgb (XJ θ P) j_ft j_df (j_SL L) (j_SV xs) j_MT j_EX kc265 mm_X12_in := wc_of w265 rfl
theorem ktb268 : ck_meth jgb jrl j_ft jfa j_MT mm_X12_anySpent [] [(180, kc201)] kc268 kq268 4000 6 = true := by decide +kernel
theorem wb268 : ck_Val jgb (XJ θ P) j_ft j_df (j_SL L) (j_SV xs) j_MT j_EX kc268 mm_X12_anySpent := ck_meth_ok o_HH0 jb_xs jb_RL j_FA (ck_cvc rfl wb201 ck_cvn) ktb268
theorem wb269 : ck_Val jgb (XJ θ P) j_ft j_df (j_SL L) (j_SV xs) j_MT j_EX kc269 mm_X12_costOf := wc_of w269 rfl
theorem ktb270 : ck_meth jgb jrl j_ft jfa j_MT mm_X12_cost [] [(140, kc172), (140, kc174), (140, kc161), (140, kc163), (140, kc171), (140, kc176), (140, kc195), (140, kc197), (140, kc265), (140, kc168), (140, kc170), (204, kc268), (205, kc269)] kc270 kq270 4000 1 = true := by decide +kernel
theorem wb270 : ck_Val jgb (XJ θ P) j_ft j_df (j_SL L) (j_SV xs) j_MT j_EX kc270 mm_X12_cost := ck_meth_ok o_HH0 jb_xs jb_RL j_FA (ck_cvc rfl wb172 (ck_cvc rfl wb174 (ck_cvc rfl wb161 (ck_cvc rfl wb163 (ck_cvc rfl wb171 (ck_cvc rfl wb176 (ck_cvc rfl wb195 (ck_cvc rfl wb197 (ck_cvc rfl wb265 (ck_cvc rfl wb168 (ck_cvc rfl wb170 (ck_cvc rfl wb268 (ck_cvc rfl wb269 ck_cvn))))))))))))) ktb270
theorem wb271 : ck_Val jgb (XJ θ P) j_ft j_df (j_SL L) (j_SV xs) j_MT j_EX kc271 mm_X12_cheapest := wc_of w271 rfl
theorem ktb272 : ck_meth jgb jrl j_ft jfa j_MT mm_X12_explain [] [(204, kc268), (207, kc271)] kc272 kq272 4000 1 = true := by decide +kernel
theorem wb272 : ck_Val jgb (XJ θ P) j_ft j_df (j_SL L) (j_SV xs) j_MT j_EX kc272 mm_X12_explain := ck_meth_ok o_HH0 jb_xs jb_RL j_FA (ck_cvc rfl wb268 (ck_cvc rfl wb271 ck_cvn)) ktb272
theorem ktb273 : ck_meth jgb jrl j_ft jfa j_MT mm_X12_next [] [(204, kc268), (207, kc271)] kc273 kq273 4000 287 = true := by decide +kernel
theorem wb273 : ck_Val jgb (XJ θ P) j_ft j_df (j_SL L) (j_SV xs) j_MT j_EX kc273 mm_X12_next := ck_meth_ok o_HH0 jb_xs jb_RL j_FA (ck_cvc rfl wb268 (ck_cvc rfl wb271 ck_cvn)) ktb273
end HF
