section XS
variable {D : va_G} {tc : Nat → ClassId} {z : Nat} {sa : Nat → Nat} {L0 : Nat} {xs : Nat → Int32} {l : Launch}
def x_yL : MethodName := ⟨"TurnSchoolLaw", "element", "(LTurnSchool;II[J)I"⟩
def x_hh : List (Nat × Nat × Nat × Nat) := [(0, 9, 12, 13), (0, 9, 16, 15)]
def x_wsL : List Cond := Cond.codeWith x_yL method_3_code 5 (some .int) x_hh :: j_tbl
theorem x_inV : ∀ w ∈ [Cond.methodLink "TurnSchoolLaw" 7 (pm_nm x_M), Cond.instanceMethod (pm_nm x_M), Cond.selects "TurnSchool" (pm_nm x_M) (pm_nm x_M), Cond.initialized "TurnSchool"], w ∈ j_tbl := by
  intro w hw
  simp only [List.mem_cons, List.not_mem_nil, or_false] at hw
  rcases hw with rfl | rfl | rfl | rfl
  · exact j_mem_ok 1020 _ (by decide +kernel)
  · exact j_mem_ok 1021 _ (by decide +kernel)
  · exact j_mem_ok 1022 _ (by decide +kernel)
  · exact j_mem_ok 83 _ (by decide +kernel)
def x_ek (h : pm_H) (o : Nat → Int64) (k : Int32) (v : Int64) : pm_K := fun r h' => (k = 0 ∧ r = some (.int 0) ∧ h' = h.set 81 (.inl (1, 1, .inr (.inl (vp_updL o 0 v))))) ∨ (¬ k = 0 ∧ r = some (.int k) ∧ h' = h ++ [.inr (99, [])])
set_option maxHeartbeats 8000000 in
set_option maxRecDepth 20000 in
theorem x_le {h : pm_H} {p0 p1 k : Int32} {v : Int64} {fs : List Value} {f : Nat → Option Nat} {o : Nat → Int64} (h0 : h[0]? = some (.inr (9, fs))) (h7 : fs[7]? = some (.ref 43)) (h43 : h[43]? = some (.inl (4, 8, .inr (.inr (.inr (.inr f)))))) (h81 : h[81]? = some (.inl (1, 1, .inr (.inl o)))) (he : o_el h f p0 p1 k v) :
    Met l x_yL x_wsL x_rL (va_Pc ([Value.ref 0, .int p0, .int p1, .ref 81].map (pm_tr z sa)) (pm_U (j_SL L0) (j_SV xs) j_nst j_cl j_SN j_HN (x_F z) D tc z sa l h)) (pm_Qc j_cl D tc z sa (x_ek h o k v)) 1 6 (pm_A z) := by
  refine va_MetW (cc := method_3_code) (maxL := 5) (ret := some .int) (hh := x_hh) (by decide +kernel) rfl ?_
  intro p e s m args below meth c s₁ B hml hv
  obtain ⟨rfl, hUU⟩ := hv
  obtain ⟨hJ, hK, hSt, hN, hz, hxp⟩ := id hUU
  obtain ⟨-, -, -, -, -, -, hNC, -⟩ := id hxp
  have hNc := hNC ("java/lang/IllegalStateException", "java/lang/IllegalArgumentException") (by decide)
  have hts0 := atoms_spec (ws := x_wsL) B.pre
  have hts : ∀ w ∈ j_tbl, w.before ([Value.ref 0, .int p0, .int p1, .ref 81].map (pm_tr z sa)).toArray s = true := fun w hw => hts0 w (List.mem_cons_of_mem _ hw)
  have htab : c.exceptionTable.toList = tableOf x_hh := vx_table (x := x_yL) B (hts0 _ List.mem_cons_self)
  have hown : s.vm.findClass "TurnSchoolLaw" = some m.cls := findClass_of_methodNamed B.named
  have hlocks := B.notSynchronized
  have hx := B.exec
  have hb : c.code = method_3_code := B.bytes
  have hrt := B.returns
  have hL0 := pm_Lv_en z sa [Value.ref 0, .int p0, .int p1, .ref 81] (n := 5) (Nat.le_of_ble_eq_true rfl)
  have key : ∀ ls : Array Slot, pm_Lv z sa ls 5 (pm_en 5 [Value.ref 0, .int p0, .int p1, .ref 81]) → W p l e x_rL s m ([Value.ref 0, .int p0, .int p1, .ref 81].map (pm_tr z sa)).toArray below meth c s.heap [] 0 0 (MQ below (pm_Qc j_cl D tc z sa (x_ek h o k v)) ([Value.ref 0, .int p0, .int p1, .ref 81].map (pm_tr z sa)).toArray s 1 6 (pm_A z)) (F0 m 0 ls []) := by
    intro ls hL
    refine lv_aload_n hx hb x_l0 rfl (pm_Lv_at hL (i := 3) (v := .ref 81) rfl rfl) ?_
    refine lv_iconst (v := 0) hx hb x_l1 rfl ?_
    refine lv_aload_n hx hb x_l2 rfl (pm_Lv_at hL (i := 0) (v := .ref 0) rfl rfl) ?_
    refine lv_iload_n hx hb x_l3 rfl (pm_Lv_at hL (i := 1) (v := .int p0) rfl rfl) ?_
    refine lv_iload_n hx hb x_l4 rfl (pm_Lv_at hL (i := 2) (v := .int p1) rfl rfl) ?_
    have hcl9 : j_cl[9]? = some ("TurnSchool", jT9, 12) := rfl
    have hrv := va_recv hK (pm_P1o hcl9 (hJ.2 0 _ h0)) hcl9 (q0 := 0) rfl
    have cw := cwV (R := x_rL) (s := s) (args := ([Value.ref 0, .int p0, .int p1, .ref 81].map (pm_tr z sa)).toArray) (own := "TurnSchoolLaw") (C := "TurnSchool") (index := 7) (y := pm_nm x_M) (bytes := pm_cd x_M) (maxL := pm_nl x_M) (ret := pm_rt x_M) (rm := x_rE) (mc := 1) (ms := 6) 2 hts (pm_goodA x_gd (c := Cond.code (pm_nm x_M) (pm_cd x_M) (pm_nl x_M) (pm_rt x_M)) (j_mem_ok 1023 _ (by decide +kernel)) x_inV) rfl rfl rfl ⟨rfl, by decide, by decide, by decide +kernel⟩ ⟨by decide, by decide⟩
    have hrun := vx_runV (g := F0 m 5 ls [.int p1, .int p0, .ref (z + 0), .int 0, .ref (z + 81)]) (As := [.int p0, .int p1]) (b := z + 0) (rest := [.int 0, .ref (z + 81)]) (locs := []) (cells := 0) (slots := 0) (meth := meth) (p := p) (e := e) (below := below) ⟨hx, hb, hml, hown, hts⟩ (x_el (L0 := L0) (xs := xs) h0 h7 h43 he) cw ⟨pm_blind x_mv x_nN _ h, hrv, fun U h1 h2 => ⟨rfl, pm_U_of x_nN hK hSt hN hz hJ va_S.rf x_mv hxp h1 h2⟩⟩ rfl rfl (pm_Lv_size hL) rfl (lv_room (Nat.le_of_ble_eq_true rfl)) x_l5 ⟨by decide, by decide⟩
    intro T hT X
    rcases hrun T hT X with ⟨v', st₀, t0, T', L, e0, X', hLf, e1, e2, ⟨hk0, ⟨r, h', hv, ⟨rfl, eh⟩, hJ'⟩, hF'⟩, st⟩ | ⟨q, st₀, t0, T', L, E, ce, e0, X', hLf, e1, e2, ⟨hEE, hJ', hF'⟩, hce, hcv, hcl, st⟩
    · cases hv
      rw [eh] at hJ'
      have hS' : va_S (pm_A z) s.heap T'.heap ([] ++ L) := (vx_keep e0 e1 va_S.rf (fun q _ h => h) (fun q h => h) hLf hF').2.2
      have kw : W p l e x_rL s m ([Value.ref 0, .int p0, .int p1, .ref 81].map (pm_tr z sa)).toArray below meth c T'.heap ([] ++ L) 1 6 (MQ below (pm_Qc j_cl D tc z sa (x_ek h o k v)) ([Value.ref 0, .int p0, .int p1, .ref 81].map (pm_tr z sa)).toArray s 1 6 (pm_A z)) (F0 m 8 ls [.long v, .int 0, .ref (z + 81)]) := by
        refine pm_last hx hb hK (h := h) (by rw [e1]; exact hJ') hS' h81 (i := 0) (vp_in_iff.mpr ⟨by decide, by decide⟩) x_l8 (fun H1 locs1 hJ1 hS1 => ?_)
        refine lv_goto (tgt := 20) hx hb x_l9 (by decide) ?_
        refine lv_iconst (v := 0) hx hb x_l20 rfl ?_
        exact W.zret hx hb hrt rfl (fun t ht hW => ⟨⟨some (.int 0), _, rfl, Or.inl ⟨hk0, rfl, rfl⟩, by rw [ht]; exact hJ1⟩, hS1.F ht⟩) hS1.2.2 x_l21 hlocks
      obtain ⟨t2, a1, b1⟩ := kw T' rfl X'
      exact ⟨t2, st t2 a1, b1⟩
    · have hS' : va_S (pm_A z) s.heap T'.heap ([] ++ L) := (vx_keep e0 e1 va_S.rf (fun q _ h => h) (fun q h => h) hLf hF').2.2
      have hq : ¬ k = 0 → ∀ t : State, t.heap = T'.heap → s.WarmedH t.vm → pm_Qc j_cl D tc z sa (x_ek h o k v) ([Value.ref 0, .int p0, .int p1, .ref 81].map (pm_tr z sa)).toArray s (.returned (some (.int k))) t := fun hk t ht hW => ⟨⟨some (.int k), h ++ [.inr (99, [])], rfl, Or.inr ⟨hk, rfl, rfl⟩, by rw [ht, e1]; exact hJ'⟩, hS'.F ht⟩
      have hcell : T'.heap[q]? = some ce := by rw [e1]; exact hce
      obtain ⟨lv, hlv, hm⟩ := id hL
      have hvx : vx_W p l e x_rL s m ([Value.ref 0, .int p0, .int p1, .ref 81].map (pm_tr z sa)).toArray below meth c T'.heap ([] ++ L) 1 6 (MQ below (pm_Qc j_cl D tc z sa (x_ek h o k v)) ([Value.ref 0, .int p0, .int p1, .ref 81].map (pm_tr z sa)).toArray s 1 6 (pm_A z)) (F0 m 5 ls [.int 0, .ref (z + 81)]) q := by
        rcases hEE with ⟨hk, rfl⟩ | ⟨hk, rfl⟩
        · refine vx_catch (own := "TurnSchoolLaw") (name := "java/lang/IllegalArgumentException") hown [] ⟨0, 9, 12, 13⟩ [⟨0, 9, 16, 15⟩] (by rw [htab]; rfl) (fun z hz => by cases hz) (by decide) (by decide) (hts _ (j_mem_ok 1018 _ (by decide +kernel))) (x_caA hN) hcell hcv hcl ?_
          refine lv_astore (lv := lv) hx hb x_l12 hlv (by decide) rfl (fun ls' h' => ?_)
          refine lv_iconst (v := 1) hx hb x_l14 rfl ?_
          subst hk
          exact W.zret hx hb hrt rfl (hq (by decide)) hS'.2.2 x_l15 hlocks
        · refine vx_catch (own := "TurnSchoolLaw") (name := "java/lang/IllegalStateException") hown [⟨0, 9, 12, 13⟩] ⟨0, 9, 16, 15⟩ [] (by rw [htab]; rfl) (fun z hz => ?_) (by decide) (by decide) (hts _ (j_mem_ok 1019 _ (by decide +kernel))) (x_caS hN) hcell hcv hcl ?_
          · rw [List.mem_singleton] at hz
            subst hz
            exact Or.inr ⟨by decide, "java/lang/IllegalArgumentException", hts _ (j_mem_ok 1018 _ (by decide +kernel)), hNc⟩
          · refine lv_astore (lv := lv) hx hb x_l16 hlv (by decide) rfl (fun ls' h' => ?_)
            refine lv_iconst (v := 2) hx hb x_l18 rfl ?_
            subst hk
            exact W.zret hx hb hrt rfl (hq (by decide)) hS'.2.2 x_l19 hlocks
      obtain ⟨t2, a1, b1⟩ := hvx T' rfl X'
      exact ⟨t2, st.trans a1, b1⟩
  rw [lg_entry_eq]
  exact key _ hL0
theorem x_inS : ∀ w ∈ [Cond.methodLink "TurnSchoolLaw" 127 x_yL, Cond.static x_yL, Cond.initialized x_yL.cls], w ∈ j_tbl := by
  intro w hw
  simp only [List.mem_cons, List.not_mem_nil, or_false] at hw
  rcases hw with rfl | rfl | rfl
  · exact j_mem_ok 1015 _ (by decide +kernel)
  · exact j_mem_ok 1016 _ (by decide +kernel)
  · exact j_mem_ok 82 _ (by decide +kernel)
theorem x_inK : ∀ w ∈ [Cond.methodLink "TurnSchool" 322 x_yK, Cond.static x_yK, Cond.initialized x_yK.cls], w ∈ j_tbl := by
  intro w hw
  simp only [List.mem_cons, List.not_mem_nil, or_false] at hw
  rcases hw with rfl | rfl | rfl
  · exact j_mem_ok 940 _ (by decide +kernel)
  · exact j_mem_ok 941 _ (by decide +kernel)
  · exact j_mem_ok 83 _ (by decide +kernel)
theorem x_d1091 : decode (pm_cd mm_L_law) 1091 = .ok (.invokestatic 127, 3) := by decide +kernel
theorem x_t38 : decode (pm_cd mm_X11_toss) 38 = .ok (.invokestatic 322, 3) := by decide +kernel
theorem o_is3 {T : Nat} (h : o_is T = true) : T = 2 ∨ T = 7 ∨ T = 8 := by
  unfold o_is at h
  rw [Bool.or_eq_true, Bool.or_eq_true] at h
  rcases h with h | h | h
  · exact Or.inl (Nat.eq_of_beq_eq_true h)
  · exact Or.inr (Or.inl (Nat.eq_of_beq_eq_true h))
  · exact Or.inr (Or.inr (Nat.eq_of_beq_eq_true h))
theorem x_rec {h : pm_H} {s : State} {H : Heap} {k ci : Nat} {fs : List Value} (hK : va_K D j_cl (pm_tys j_HN tc) s) (hJ : pm_J j_cl D tc z sa h H) (hk : h[k]? = some (.inr (ci, fs))) (hci : ci = 2 ∨ ci = 7 ∨ ci = 8) : (∃ cell : Cell, H[z + k]? = some cell ∧ cell.vm.isStatics = false ∧ s.vm.findClass (o_cn ci) = some cell.cls) ∧ ClassAt s (o_cn ci) (D.1 ci) := by
  rcases hci with rfl | rfl | rfl
  · have hcl : j_cl[2]? = some ("TurnSchool$LongRow", jT2, 1) := rfl
    exact ⟨va_recv hK (pm_P1o hcl (hJ.2 k _ hk)) hcl (q0 := 0) rfl, (hK.1 2 _ hcl).2⟩
  · have hcl : j_cl[7]? = some ("TurnSchool$ShortRow", jT7, 1) := rfl
    exact ⟨va_recv hK (pm_P1o hcl (hJ.2 k _ hk)) hcl (q0 := 0) rfl, (hK.1 7 _ hcl).2⟩
  · have hcl : j_cl[8]? = some ("TurnSchool$Statement", jT8, 2) := rfl
    exact ⟨va_recv hK (pm_P1o hcl (hJ.2 k _ hk)) hcl (q0 := 0) rfl, (hK.1 8 _ hcl).2⟩
theorem x_ncm {ci T : Nat} (h1 : ci = 2 ∨ ci = 7 ∨ ci = 8) (h2 : T = 2 ∨ T = 7 ∨ T = 8) (h : ¬ ci = T) : (o_cn ci, o_cn T) ∈ x_NC := by
  rcases h1 with rfl | rfl | rfl <;> rcases h2 with rfl | rfl | rfl <;> first | exact absurd rfl h | decide
set_option maxHeartbeats 8000000 in
set_option maxRecDepth 20000 in
theorem x_ok : pm_XO (j_SL L0) (j_SV xs) j_MT j_EX j_mem j_memN j_HO j_tbl j_nst j_cl j_SN j_HN (x_F z) D tc z sa := by
  intro M c0 R hE p l e s m args below meth cd H locs ls Q hC hwt hL hJ hS hc0 hs0 hk
  obtain ⟨pc, L, st, h, c, sl⟩ := c0
  dsimp only at hL hJ hc0 hs0 ⊢
  obtain ⟨hx, hb, hr, hml, hown, hts, hlocks, hname, hK, hSt, hN, hz, hxp⟩ := id hC
  rcases hE with hE | hE | hE | hE | hE | hE | hE
  · obtain ⟨idx, x, y, st', e1, hd, hl, hrm, rfl⟩ := hE
    dsimp only at e1 hd
    subst e1
    rw [Bool.and_eq_true] at hrm
    exact va_mmax hx hb (by rw [hml, pm_Lv_size hL]) hown (hts _ (j_mem_ok _ _ hl)) (hts _ (j_mem_ok 853 _ (by decide +kernel))) (hts _ (j_mem_ok 93 _ (by decide +kernel))) (hts _ (j_mem_ok 854 _ (by decide +kernel))) (Nat.le_of_ble_eq_true hrm.1) (by rw [pm_cat_tr]; exact Nat.le_of_ble_eq_true hrm.2) hc0 hs0 hd (hk (pc + 3, L, .int (if x < y then y else x) :: st', h, c, sl) H locs ls rfl hL hJ hS hc0 hs0)
  · obtain ⟨idx, x, y, st', e1, hd, hl, hrm, rfl⟩ := hE
    dsimp only at e1 hd
    subst e1
    rw [Bool.and_eq_true] at hrm
    exact va_mmin hx hb (by rw [hml, pm_Lv_size hL]) hown (hts _ (j_mem_ok _ _ hl)) (hts _ (j_mem_ok 509 _ (by decide +kernel))) (hts _ (j_mem_ok 93 _ (by decide +kernel))) (hts _ (j_mem_ok 510 _ (by decide +kernel))) (Nat.le_of_ble_eq_true hrm.1) (by rw [pm_cat_tr]; exact Nat.le_of_ble_eq_true hrm.2) hc0 hs0 hd (hk (pc + 3, L, .int (if y < x then y else x) :: st', h, c, sl) H locs ls rfl hL hJ hS hc0 hs0)
  · obtain ⟨idx, k, ci, T, st', fs, e1, hd, hl, hk1, hci, hT, rfl⟩ := hE
    dsimp only at e1 hd hk1
    subst e1
    have g1 := o_is3 hci
    have g2 := o_is3 hT
    obtain ⟨hrv, hat⟩ := x_rec hK hJ hk1 g1
    by_cases e : ci = T
    · subst e
      have h9 := hk (pc + 3, L, .int 1 :: st', h, c, sl) H locs ls (by dsimp only; rw [if_pos rfl]) hL hJ hS hc0 hs0
      exact va_instS hx hb hown (hts _ (j_mem_ok _ _ hl)) hat hrv hd h9
    · have h9 := hk (pc + 3, L, .int 0 :: st', h, c, sl) H locs ls (by dsimp only; rw [if_neg e]) hL hJ hS hc0 hs0
      exact va_instNo hx hb hown (hts _ (j_mem_ok _ _ hl)) (hxp.2.2.2.2.2.2.1 _ (x_ncm g1 g2 e)) hrv hd h9
  · obtain ⟨idx, k, T, st', fs, e1, hd, hl, hk1, hT, rfl⟩ := hE
    dsimp only at e1 hd hk1
    subst e1
    obtain ⟨hrv, hat⟩ := x_rec hK hJ hk1 (o_is3 hT)
    exact va_castS hx hb hown (hts _ (j_mem_ok _ _ hl)) hat hrv hd (hk (pc + 3, L, .ref k :: st', h, c, sl) H locs ls rfl hL hJ hS hc0 hs0)
  · obtain ⟨idx, a0, a, n0, n1, sp, dp, mm, st', e1, hd, hl, hrm, hin, hcase⟩ := hE
    dsimp only at e1 hd hcase
    subst e1
    rw [Bool.and_eq_true] at hrm
    rcases hcase with ⟨f, g, k0, k1, rfl⟩ | ⟨f, g, k0, k1, hfit, rfl⟩
    · exact pm_cpl hx hb (by rw [hml, pm_Lv_size hL]) hown (hts _ (j_mem_ok _ _ hl)) (hts _ (j_mem_ok 926 _ (by decide +kernel))) (hts _ (j_mem_ok 925 _ (by decide +kernel))) (hts _ (j_mem_ok 105 _ (by decide +kernel))) hK hJ hS k0 k1 hin (Nat.le_of_ble_eq_true hrm.1) (by rw [pm_cat_tr]; exact Nat.le_of_ble_eq_true hrm.2) hd (fun H1 locs1 hJ1 hS1 => hk (pc + 3, L, st', _, c, sl) H1 locs1 ls rfl hL hJ1 hS1 hc0 hs0)
    · exact pm_cps hx hb (by rw [hml, pm_Lv_size hL]) hown (hts _ (j_mem_ok _ _ hl)) (hts _ (j_mem_ok 926 _ (by decide +kernel))) (hts _ (j_mem_ok 925 _ (by decide +kernel))) (hts _ (j_mem_ok 105 _ (by decide +kernel))) hK hJ hS k0 k1 hin hfit (Nat.le_of_ble_eq_true hrm.1) (by rw [pm_cat_tr]; exact Nat.le_of_ble_eq_true hrm.2) hd (fun H1 locs1 hJ1 hS1 => hk (pc + 3, L, st', _, c, sl) H1 locs1 ls rfl hL hJ1 hS1 hc0 hs0)
  · obtain ⟨rfl, e1, y, a, k, e2, hy, ec, es, rfl⟩ := hE
    dsimp only at e1 e2 hy ec es
    subst e1 e2 ec es
    have cw := vx_cwSW (R := pm_rm mm_X11_toss) (s := s) (args := args) (own := "TurnSchool") (index := 322) (y := x_yK) (bytes := prog_1_method_40_code) (maxL := 2) (ret := some .int) (hh := x_hk) (rm := x_rL) (mc := 1) (ms := 6) (ws := x_wsK) 1 hts (pm_goodA x_gd (c := Cond.codeWith x_yK prog_1_method_40_code 2 (some .int) x_hk) (j_mem_ok 942 _ (by decide +kernel)) x_inK) rfl rfl rfl ⟨by decide, by decide, by decide +kernel⟩ ⟨by decide, by decide⟩
    have hrun := vx_runSW (g := F0 m 38 ls (([.ref y] : List Value).map (pm_tr z sa))) (As := [Value.ref y].map (pm_tr z sa)) (rest := []) (locs := locs) (cells := 0) (slots := 0) (meth := meth) (p := p) (e := e) (below := below) ⟨hx, hb, hml, hown, hts⟩ (x_lf (L0 := L0) (xs := xs) hy) cw ⟨pm_blind x_mv x_nN _ h, fun U h1 h2 => ⟨rfl, pm_U_of x_nN hK hSt hN hz hJ hS x_mv hxp h1 h2⟩⟩ rfl rfl (pm_Lv_size hL) rfl (lv_room (by decide)) x_t38 ⟨by decide, by decide⟩
    refine pm_go hrun hS ?_
    rintro r h' H1 locs1 hq hJ1 hS1
    rcases hq with ⟨hlk, rfl, rfl⟩ | ⟨hlk, rfl, rfl⟩
    · exact hk (41, L, [.int a], h ++ [.inr (99, [])], 1, 6) H1 locs1 ls (by dsimp only; rw [if_pos hlk]; exact ⟨[], rfl⟩) hL hJ1 hS1 (show 1 ≤ (pm_rm mm_X11_toss).cells by decide) (show 6 ≤ (pm_rm mm_X11_toss).slots by decide)
    · exact hk (41, L, [.int (-15)], h', 1, 6) H1 locs1 ls (by dsimp only; rw [if_neg hlk]) hL hJ1 hS1 (show 1 ≤ (pm_rm mm_X11_toss).cells by decide) (show 6 ≤ (pm_rm mm_X11_toss).slots by decide)
  · obtain ⟨rfl, e1, p0, p1, k, v, fs, f, o, e2, h0, h7, h43, h81, he, hcc, hss, rfl⟩ := hE
    dsimp only at e1 e2 h0 h43 h81 he hcc hss
    subst e1 e2
    have cw := vx_cwSW (R := pm_rm mm_L_law) (s := s) (args := args) (own := "TurnSchoolLaw") (index := 127) (y := x_yL) (bytes := method_3_code) (maxL := 5) (ret := some .int) (hh := x_hh) (rm := x_rL) (mc := 1) (ms := 6) (ws := x_wsL) 4 hts (pm_goodA x_gd (c := Cond.codeWith x_yL method_3_code 5 (some .int) x_hh) (j_mem_ok 1017 _ (by decide +kernel)) x_inS) rfl rfl rfl ⟨by decide, by decide, by decide +kernel⟩ ⟨by decide, by decide⟩
    have hrun := vx_runSW (g := F0 m 1091 ls (([.ref 81, .int p1, .int p0, .ref 0] : List Value).map (pm_tr z sa))) (As := [Value.ref 0, .int p0, .int p1, .ref 81].map (pm_tr z sa)) (rest := []) (locs := locs) (cells := c) (slots := sl) (meth := meth) (p := p) (e := e) (below := below) ⟨hx, hb, hml, hown, hts⟩ (x_le (L0 := L0) (xs := xs) h0 h7 h43 h81 he) cw ⟨pm_blind x_mv x_nN _ h, fun U h1 h2 => ⟨rfl, pm_U_of x_nN hK hSt hN hz hJ hS x_mv hxp h1 h2⟩⟩ rfl rfl (pm_Lv_size hL) rfl (lv_room (by decide)) x_d1091 ⟨hcc, hss⟩
    refine pm_go hrun hS ?_
    rintro r h' H1 locs1 hq hJ1 hS1
    rcases hq with ⟨hk0, rfl, rfl⟩ | ⟨hk0, rfl, rfl⟩
    · exact hk (1094, L, [.int 0], h.set 81 (.inl (1, 1, .inr (.inl (vp_updL o 0 v)))), c + 1, sl + 6) H1 locs1 ls (by dsimp only; rw [if_pos hk0]) hL hJ1 hS1 hcc hss
    · exact hk (1094, L, [.int k], h ++ [.inr (99, [])], c + 1, sl + 6) H1 locs1 ls (by dsimp only; rw [if_neg hk0]; exact ⟨[], rfl⟩) hL hJ1 hS1 hcc hss
end XS
