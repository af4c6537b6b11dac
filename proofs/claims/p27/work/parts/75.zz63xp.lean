section XP
variable {D : va_G} {tc : Nat → ClassId} {z : Nat} {sa : Nat → Nat} {L0 : Nat} {xs : Nat → Int32} {l : Launch}
def x_yK : MethodName := ⟨"TurnSchool", "lockOfFailure", "(LTurnSchool$Statement;)I"⟩
def x_hk : List (Nat × Nat × Nat × Nat) := [(0, 4, 7, 303)]
def x_wsK : List Cond := Cond.codeWith x_yK prog_1_method_40_code 2 (some .int) x_hk :: j_tbl
theorem x_inF : ∀ w ∈ [Cond.methodLink "TurnSchool" 326 (pm_nm xf_M), Cond.instanceMethod (pm_nm xf_M), Cond.selects "TurnSchool$Statement" (pm_nm xf_M) (pm_nm xf_M), Cond.initialized "TurnSchool$Statement"], w ∈ j_tbl := by
  intro w hw
  simp only [List.mem_cons, List.not_mem_nil, or_false] at hw
  rcases hw with rfl | rfl | rfl | rfl
  · exact j_mem_ok 944 _ (by decide +kernel)
  · exact j_mem_ok 945 _ (by decide +kernel)
  · exact j_mem_ok 946 _ (by decide +kernel)
  · exact j_mem_ok 97 _ (by decide +kernel)
def x_lk (h : pm_H) (a k : Int32) : pm_K := fun r h' => ((8 ≤ k ∧ k ≤ 11) ∧ r = some (.int a) ∧ h' = h ++ [.inr (99, [])]) ∨ (¬ (8 ≤ k ∧ k ≤ 11) ∧ r = some (.int (-15)) ∧ h' = h)
set_option maxHeartbeats 4000000 in
set_option maxRecDepth 20000 in
theorem x_lf {h : pm_H} {y : Nat} {a k : Int32} (hy : h[y]? = some (.inr (8, [.int a, .int k]))) :
    Met l x_yK x_wsK x_rL (va_Pc ([Value.ref y].map (pm_tr z sa)) (pm_U (j_SL L0) (j_SV xs) j_nst j_cl j_SN j_HN (x_F z) D tc z sa l h)) (pm_Qc j_cl D tc z sa (x_lk h a k)) 1 6 (pm_A z) := by
  refine va_MetW (cc := prog_1_method_40_code) (maxL := 2) (ret := some .int) (hh := x_hk) (by decide +kernel) rfl ?_
  intro p e s m args below meth c s₁ B hml hv
  obtain ⟨rfl, hUU⟩ := hv
  obtain ⟨hJ, hK, hSt, hN, hz, hxp⟩ := id hUU
  have hts0 := atoms_spec (ws := x_wsK) B.pre
  have hts : ∀ w ∈ j_tbl, w.before ([Value.ref y].map (pm_tr z sa)).toArray s = true := fun w hw => hts0 w (List.mem_cons_of_mem _ hw)
  have htab : c.exceptionTable.toList = tableOf x_hk := vx_table (x := x_yK) B (hts0 _ List.mem_cons_self)
  have hown : s.vm.findClass "TurnSchool" = some m.cls := findClass_of_methodNamed B.named
  have hlocks := B.notSynchronized
  have hx := B.exec
  have hb : c.code = prog_1_method_40_code := B.bytes
  have hrt := B.returns
  have hL0 := pm_Lv_en z sa [Value.ref y] (n := 2) (Nat.le_of_ble_eq_true rfl)
  have hcl : j_cl[8]? = some ("TurnSchool$Statement", jT8, 2) := rfl
  have hGG := j_G (XP := x_F z) (z := z) x_mv
  have hcls := hGG.2.2.2.2.2.1
  have key : ∀ ls : Array Slot, pm_Lv z sa ls 2 (pm_en 2 [Value.ref y]) → W p l e x_rL s m ([Value.ref y].map (pm_tr z sa)).toArray below meth c s.heap [] 0 0 (MQ below (pm_Qc j_cl D tc z sa (x_lk h a k)) ([Value.ref y].map (pm_tr z sa)).toArray s 1 6 (pm_A z)) (F0 m 0 ls []) := by
    intro ls hL
    refine lv_aload_n hx hb xk_d0 rfl (pm_Lv_at hL (i := 0) (v := .ref y) rfl rfl) ?_
    have hrv := va_recv hK (pm_P1o hcl (hJ.2 y _ hy)) hcl (q0 := 0) rfl
    have cw := cwV (R := x_rL) (s := s) (args := ([Value.ref y].map (pm_tr z sa)).toArray) (own := "TurnSchool") (C := "TurnSchool$Statement") (index := 326) (y := pm_nm xf_M) (bytes := pm_cd xf_M) (maxL := pm_nl xf_M) (ret := pm_rt xf_M) (rm := x_rE) (mc := 1) (ms := 6) 0 hts (pm_goodA x_gd (c := Cond.code (pm_nm xf_M) (pm_cd xf_M) (pm_nl xf_M) (pm_rt xf_M)) (j_mem_ok 947 _ (by decide +kernel)) x_inF) rfl rfl rfl ⟨rfl, by decide, by decide, by decide +kernel⟩ ⟨by decide, by decide⟩
    have hrun := vx_runV (g := F0 m 1 ls [.ref (z + y)]) (As := []) (b := z + y) (rest := []) (locs := []) (cells := 0) (slots := 0) (meth := meth) (p := p) (e := e) (below := below) ⟨hx, hb, hml, hown, hts⟩ (x_fl (L0 := L0) (xs := xs) hy) cw ⟨pm_blind x_mv x_nN _ h, hrv, fun U h1 h2 => ⟨rfl, pm_U_of x_nN hK hSt hN hz hJ va_S.rf x_mv hxp h1 h2⟩⟩ rfl rfl (pm_Lv_size hL) rfl (lv_room (Nat.le_of_ble_eq_true rfl)) xk_d1 ⟨by decide, by decide⟩
    intro T hT X
    rcases hrun T hT X with ⟨v, st₀, t0, T', L, e0, X', hLf, e1, e2, ⟨hnl, ⟨r, h', hv, ⟨rfl, eh⟩, hJ'⟩, hF'⟩, st⟩ | ⟨q, st₀, t0, T', L, E, ce, e0, X', hLf, e1, e2, ⟨hlk, hEE, hJ', hF'⟩, hce, hcv, hcl', st⟩
    · cases hv
      rw [eh] at hJ'
      have hS' : va_S (pm_A z) s.heap T'.heap ([] ++ L) := (vx_keep e0 e1 va_S.rf (fun q _ h => h) (fun q h => h) hLf hF').2.2
      have kw : W p l e x_rL s m ([Value.ref y].map (pm_tr z sa)).toArray below meth c T'.heap ([] ++ L) 1 6 (MQ below (pm_Qc j_cl D tc z sa (x_lk h a k)) ([Value.ref y].map (pm_tr z sa)).toArray s 1 6 (pm_A z)) (F0 m 4 ls []) := by
        refine lv_goto (tgt := 13) hx hb xk_d4 (by decide) ?_
        refine lv_bipush (v := -15) hx hb xk_d13 rfl ?_
        exact W.zret hx hb hrt rfl (fun t ht hW => ⟨⟨some (.int (-15)), h, rfl, Or.inr ⟨hnl, rfl, rfl⟩, by rw [ht, e1]; exact hJ'⟩, hS'.F ht⟩) hS'.2.2 xk_d15 hlocks
      obtain ⟨t2, a1, b1⟩ := kw T' rfl X'
      exact ⟨t2, st t2 a1, b1⟩
    · have hS' : va_S (pm_A z) s.heap T'.heap ([] ++ L) := (vx_keep e0 e1 va_S.rf (fun q _ h => h) (fun q h => h) hLf hF').2.2
      have hcell : T'.heap[q]? = some ce := by rw [e1]; exact hce
      obtain ⟨lv, hlv, hm⟩ := id hL
      subst hEE
      have hvx : vx_W p l e x_rL s m ([Value.ref y].map (pm_tr z sa)).toArray below meth c T'.heap ([] ++ L) 1 6 (MQ below (pm_Qc j_cl D tc z sa (x_lk h a k)) ([Value.ref y].map (pm_tr z sa)).toArray s 1 6 (pm_A z)) (F0 m 1 ls []) q := by
        refine vx_catch (own := "TurnSchool") (name := "java/lang/IllegalStateException") hown [] ⟨0, 4, 7, 303⟩ [] (by rw [htab]; rfl) (fun z hz => by cases hz) (by decide) (by decide) (hts _ (j_mem_ok 943 _ (by decide +kernel))) (x_caS hN) hcell hcv hcl' ?_
        have hLk : (h ++ [.inr (99, [])])[y]? = some (.inr (8, [.int a, .int k])) := by
          rw [List.getElem?_append_left (List.getElem?_eq_some_iff.mp hy).1]
          exact hy
        have hJ2 : pm_J j_cl D tc z sa (h ++ [.inr (99, [])]) T'.heap := by rw [e1]; exact hJ'
        refine lv_astore_n (lv := lv) hx hb xk_d7 rfl hlv (by decide) rfl (fun ls' h' => ?_)
        have hL' : pm_Lv z sa ls' 2 (pm_s1 (pm_en 2 [Value.ref y]) 1 pm_un) := by
          obtain ⟨lv2, hlv2, hm2⟩ := id hL
          exact ⟨_, h', fun i v hi hu => by
            match i, hi with
            | 0, hi =>
              have hv0 : v = .ref y := (Option.some.inj (show some (Value.ref y) = some v from hi)).symm
              subst hv0
              exact List.mem_cons_of_mem _ (List.mem_filter.mpr ⟨hm 0 _ rfl rfl, rfl⟩)
            | 1, hi => cases hi; cases hu
            | i + 2, hi => exact absurd (List.getElem?_eq_some_iff.mp hi).1 (by show ¬ (i + 2 < 2); omega)⟩
        refine lv_aload_n hx hb xk_d8 rfl (pm_Lv_at hL' (i := 0) (v := .ref y) rfl rfl) ?_
        refine va_get hx hb hts (hcls 8 _ hcl).1 hown hK (pm_P1o hcl (hJ2.2 y _ hLk)) 0 rfl hcl 0 (by decide) (hts _ (j_mem_ok 873 _ (by decide +kernel))) (fun _ h9 => h9) (pm_V_tr z sa [.int a, .int k] (k := 0) rfl) xk_d9 ?_
        exact W.zret hx hb hrt rfl (fun t ht hW => ⟨⟨some (.int a), h ++ [.inr (99, [])], rfl, Or.inl ⟨hlk, rfl, rfl⟩, by rw [ht]; exact hJ2⟩, hS'.F ht⟩) hS'.2.2 xk_d12 hlocks
      obtain ⟨t2, a1, b1⟩ := hvx T' rfl X'
      exact ⟨t2, st.trans a1, b1⟩
  rw [lg_entry_eq]
  exact key _ hL0
end XP
