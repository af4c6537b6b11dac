/-! THE PURE MACHINE AND THE REAL ONE: an invoke -/
theorem pm_cat_app (a b : List Value) : pm_cat (a ++ b) = pm_cat a + pm_cat b := by simp [pm_cat]
theorem pm_cat_rev (a : List Value) : pm_cat a.reverse = pm_cat a := by
  induction a with
  | nil => rfl
  | cons v t ih =>
    rw [List.reverse_cons, pm_cat_app, ih]
    have e1 : pm_cat (v :: t) = v.category + pm_cat t := by simp [pm_cat]
    have e2 : pm_cat [v] = v.category := by simp [pm_cat]
    omega
/-- what a call's step is -/
theorem pm_call_some {MT : Nat → Option pm_M} {M : pm_M} {y kind n : Nat} {st : List Value} {h : pm_H} {c s : Nat} {o : pm_O} (e : pm_call MT M y kind n st h c s = some o) :
    ∃ (Y : pm_M) (cs : List Bool) (as rest : List Value), MT y = some Y ∧ o = .inr (.inr (.inr (cs, y, as, rest))) ∧ (pm_rm Y).frames + 1 ≤ (pm_rm M).frames ∧ 8 + (pm_nl Y + 11) + (pm_rm Y).locals ≤ (pm_rm M).locals ∧
      (pm_all cs → c ≤ (pm_rm M).cells → s ≤ (pm_rm M).slots → c + (pm_rm Y).cells ≤ (pm_rm M).cells ∧ s + (pm_rm Y).slots ≤ (pm_rm M).slots) ∧ pm_cat rest ≤ 8 ∧ pm_cat as ≤ pm_nl Y ∧
      ((kind = 1 ∨ kind = 4) ∧ as = (st.take n).reverse ∧ rest = st.drop n ∧ n ≤ st.length ∨
       ¬ (kind = 1 ∨ kind = 4) ∧ ∃ k, st[n]? = some (.ref k) ∧ as = .ref k :: (st.take n).reverse ∧ rest = st.drop (n + 1) ∧ (¬ (kind = 2 ∨ kind = 5) → ∃ fs, h[k]? = some (.inr (pm_ci Y, fs)))) := by
  unfold pm_call at e
  cases hY : MT y with
  | none => rw [hY] at e; cases e
  | some Y =>
    rw [hY] at e
    dsimp only at e
    cases hr : (Nat.ble ((pm_rm Y).frames + 1) (pm_rm M).frames && Nat.ble (8 + (pm_nl Y + 11) + (pm_rm Y).locals) (pm_rm M).locals) with
    | false => rw [hr] at e; cases e
    | true =>
      rw [hr] at e
      dsimp only at e
      rw [Bool.and_eq_true] at hr
      have hr1 := Nat.le_of_ble_eq_true hr.1
      have hr2 := Nat.le_of_ble_eq_true hr.2
      generalize hcs : pm_cs M Y c s = cs at e
      have hroom : pm_all cs → c ≤ (pm_rm M).cells → s ≤ (pm_rm M).slots → c + (pm_rm Y).cells ≤ (pm_rm M).cells ∧ s + (pm_rm Y).slots ≤ (pm_rm M).slots := by
        intro ha h1 h2
        cases hb : (Nat.beq (pm_rm Y).cells 0 && Nat.beq (pm_rm Y).slots 0) with
        | true =>
          rw [Bool.and_eq_true] at hb
          rw [Nat.eq_of_beq_eq_true hb.1, Nat.eq_of_beq_eq_true hb.2]
          exact ⟨h1, h2⟩
        | false =>
          unfold pm_cs at hcs
          rw [hb] at hcs
          subst hcs
          exact ⟨Nat.le_of_ble_eq_true ha.1, Nat.le_of_ble_eq_true ha.2⟩
      split at e
      · rename_i hk
        split at e
        · rename_i hb
          cases e
          simp only [Bool.and_eq_true] at hb
          refine ⟨Y, cs, _, _, rfl, rfl, hr1, hr2, hroom, Nat.le_of_ble_eq_true hb.1, ?_, Or.inl ⟨Or.inl rfl, rfl, rfl, Nat.le_of_ble_eq_true hb.2.1⟩⟩
          rw [pm_cat_rev]; exact Nat.le_of_ble_eq_true hb.2.2
        · cases e
      · rename_i hk
        split at e
        · rename_i hb
          cases e
          simp only [Bool.and_eq_true] at hb
          refine ⟨Y, cs, _, _, rfl, rfl, hr1, hr2, hroom, Nat.le_of_ble_eq_true hb.1, ?_, Or.inl ⟨Or.inr rfl, rfl, rfl, Nat.le_of_ble_eq_true hb.2.1⟩⟩
          rw [pm_cat_rev]; exact Nat.le_of_ble_eq_true hb.2.2
        · cases e
      · rename_i hk1 hk4
        split at e
        · rename_i k hk
          split at e
          · cases e
          · rename_i hb
            simp only [Bool.and_eq_true] at hb
            have hcat : pm_cat (Value.ref k :: (st.take n).reverse) ≤ pm_nl Y := by
              have e1 : pm_cat (Value.ref k :: (st.take n).reverse) = 1 + pm_cat (st.take n).reverse := by simp [pm_cat, Value.category]
              rw [e1, pm_cat_rev]
              have := Nat.le_of_ble_eq_true hb.2
              omega
            have hne : ¬ (kind = 1 ∨ kind = 4) := fun hh => hh.elim (fun h => hk1 h) (fun h => hk4 h)
            split at e
            · cases e
              exact ⟨Y, cs, _, _, rfl, rfl, hr1, hr2, hroom, Nat.le_of_ble_eq_true hb.1, hcat, Or.inr ⟨hne, k, hk, rfl, rfl, fun hh => absurd (Or.inl rfl) hh⟩⟩
            · cases e
              exact ⟨Y, cs, _, _, rfl, rfl, hr1, hr2, hroom, Nat.le_of_ble_eq_true hb.1, hcat, Or.inr ⟨hne, k, hk, rfl, rfl, fun hh => absurd (Or.inr rfl) hh⟩⟩
            · split at e
              · rename_i fs hfs
                cases e
                exact ⟨Y, cs, _, _, rfl, rfl, hr1, hr2, hroom, Nat.le_of_ble_eq_true hb.1, hcat, Or.inr ⟨hne, k, hk, rfl, rfl, fun _ => ⟨fs, pm_ob_some hfs⟩⟩⟩
              · cases e
        · cases e
section PMI
variable {ft : Nat → Nat → FieldType} {df : Nat → List Value} {SL : Nat → Nat} {SV : Nat → Nat → Int32} {MT : Nat → Option pm_M} {EX : pm_M → pm_C → (pm_C → Prop) → Prop}
variable {mem memN : Nat → Cond → Bool} {HO : String} {tbl nst : List Cond} {cl : List vw_C} {SN : List (String × String)} {HN : String} {XP : Launch → State → Heap → Prop}
variable {D : va_G} {tc : Nat → ClassId} {z : Nat} {sa : Nat → Nat}
/-- the oracle is right -/
def pm_XO (SL : Nat → Nat) (SV : Nat → Nat → Int32) (MT : Nat → Option pm_M) (EX : pm_M → pm_C → (pm_C → Prop) → Prop) (mem memN : Nat → Cond → Bool) (HO : String) (tbl nst : List Cond) (cl : List vw_C) (SN : List (String × String)) (HN : String) (XP : Launch → State → Heap → Prop) (D : va_G) (tc : Nat → ClassId) (z : Nat) (sa : Nat → Nat) : Prop :=
  ∀ (M : pm_M) (c0 : pm_C) (R : pm_C → Prop), EX M c0 R → ∀ (p : Program) (l : Launch) (e : Env) (s : State) (m : MethodId) (args : Array Value) (below : List Frame) (meth : Method) (cd : Code) (H : Heap) (locs : List Loc) (ls : Array Slot) (Q : State → Prop),
  pm_Ctx SL SV tbl nst cl SN HN XP D tc z sa M p l s m args meth cd → pm_wt MT mem memN HO cl SN HN M → pm_Lv z sa ls (pm_nl M) c0.2.1 → pm_J cl D tc z sa c0.2.2.2.1 H → va_S (pm_A z) s.heap H locs → c0.2.2.2.2.1 ≤ (pm_rm M).cells → c0.2.2.2.2.2 ≤ (pm_rm M).slots →
  (∀ (c : pm_C) (H' : Heap) (locs' : List Loc) (ls' : Array Slot), R c → pm_Lv z sa ls' (pm_nl M) c.2.1 → pm_J cl D tc z sa c.2.2.2.1 H' → va_S (pm_A z) s.heap H' locs' → c.2.2.2.2.1 ≤ (pm_rm M).cells → c.2.2.2.2.2 ≤ (pm_rm M).slots → W p l e (pm_rm M) s m args below meth cd H' locs' c.2.2.2.2.1 c.2.2.2.2.2 Q (F0 m c.1 ls' (c.2.2.1.map (pm_tr z sa)))) →
  W p l e (pm_rm M) s m args below meth cd H locs c0.2.2.2.2.1 c0.2.2.2.2.2 Q (F0 m c0.1 ls (c0.2.2.1.map (pm_tr z sa)))
theorem pm_tl (z : Nat) (sa : Nat → Nat) (r : Option Value) (rest : List Value) : (r.map (pm_tr z sa)).toList ++ rest.map (pm_tr z sa) = (r.toList ++ rest).map (pm_tr z sa) := by cases r <;> simp
theorem pm_snd_call {M : pm_M} {p : Program} {l : Launch} {e : Env} {s : State} {m : MethodId} {args : Array Value} {below : List Frame} {meth : Method} {cd : Code} {H : Heap} {locs : List Loc} {ls : Array Slot} {Q : State → Prop} {L st : List Value} {h : pm_H} {pc c0 s0 a b n idx inv : Nat} {o : pm_O}
    (hG : pm_G ft df MT mem memN HO tbl nst cl SN HN XP z) (hC : pm_Ctx SL SV tbl nst cl SN HN XP D tc z sa M p l s m args meth cd) (hL : pm_Lv z sa ls (pm_nl M) L) (hJ : pm_J cl D tc z sa h H) (hS : va_S (pm_A z) s.heap H locs) (hc0 : c0 ≤ (pm_rm M).cells) (hs0 : s0 ≤ (pm_rm M).slots)
    (hres : pm_resC MT mem memN HO M idx a b n inv = true) (hd0 : inv = 0 → decode (pm_cd M) pc = .ok (.invokevirtual idx, 3)) (hd1 : inv = 1 → decode (pm_cd M) pc = .ok (.invokestatic idx, 3)) (hd2 : inv = 2 → decode (pm_cd M) pc = .ok (.invokespecial idx, 3)) (ho : pm_call MT M a b n st h c0 s0 = some o)
    (hF : ∀ q, o = .inr (.inr (.inr q)) → pm_all q.1 ∧ ∃ (Y : pm_M) (K' : pm_K), MT q.2.1 = some Y ∧ pm_Snd SL SV MT mem memN HO tbl nst cl SN HN XP D tc z sa Y (0, pm_en (pm_nl Y) q.2.2.1, [], h, 0, 0) K' ∧
      ∀ (r : Option Value) (h' : pm_H) (H1 : Heap) (locs1 : List Loc), K' r h' → pm_J cl D tc z sa h' H1 → va_S (pm_A z) s.heap H1 locs1 → c0 + (pm_rm Y).cells ≤ (pm_rm M).cells → s0 + (pm_rm Y).slots ≤ (pm_rm M).slots → W p l e (pm_rm M) s m args below meth cd H1 locs1 (c0 + (pm_rm Y).cells) (s0 + (pm_rm Y).slots) Q (F0 m (pc + 3) ls ((r.toList ++ q.2.2.2).map (pm_tr z sa)))) :
    W p l e (pm_rm M) s m args below meth cd H locs c0 s0 Q (F0 m pc ls (st.map (pm_tr z sa))) := by
  obtain ⟨hXPg, hmem, hmemN, hgd, hnN, -, -, -, hMT, -⟩ := hG
  obtain ⟨hx, hb, hr, hml, hown, hts, hlocks, hname, hK, hSt, hN, hz, hxp⟩ := hC
  obtain ⟨Y, cs, as, rest, hY, rfl, hfr, hlo, hroom, hcat, hcas, hkind⟩ := pm_call_some ho
  obtain ⟨hps, Y', K', hY', hsnd, hcont⟩ := hF _ rfl
  cases hY.symm.trans hY'
  obtain ⟨hrc, hrs⟩ := hroom hps hc0 hs0
  have hwf := hMT a Y hY
  obtain ⟨hpl, hmh, hcode, hini, hkd0, hkd1, hkd2, -⟩ := hwf
  have hM : pm_Met SL SV tbl nst cl SN HN XP D tc z sa l Y as h K' := pm_met (hMT a Y hY) hcas hsnd
  unfold pm_Met at hM
  have hS1 : CallFix p m cd (pm_cd M) (pm_nl M) s args tbl (pm_nm M).cls := ⟨hx, hb, hml, hown, hts⟩
  have hU : ∀ U : State, U.heap = H → s.WarmedH U.vm → pm_U SL SV nst cl SN HN XP D tc z sa l h U := fun U hU hW => pm_U_of hnN hK hSt hN hz hJ hS hXPg hxp hU hW
  have hbl := pm_blind (SL := SL) (SV := SV) (cl := cl) (SN := SN) (HN := HN) (D := D) (tc := tc) (z := z) (sa := sa) (l := l) hXPg hnN (as.map (pm_tr z sa)) h
  have hcat' : ((rest.map (pm_tr z sa)).map fun v => v.category).sum ≤ 8 := by rw [pm_cat_tr]; exact hcat
  unfold pm_resC at hres
  rw [hY] at hres
  dsimp only at hres
  rw [Bool.and_eq_true] at hres
  obtain ⟨hdesc, hres⟩ := hres
  have hdesc := of_decide_eq_true hdesc
  have hcontW : ∀ (r : Option Value) (h' : pm_H) (H1 : Heap) (locs1 : List Loc), K' r h' → pm_J cl D tc z sa h' H1 → va_S (pm_A z) s.heap H1 locs1 → W p l e (pm_rm M) s m args below meth cd H1 locs1 (c0 + (pm_rm Y).cells) (s0 + (pm_rm Y).slots) Q (F0 m (pc + 3) ls ((r.map (pm_tr z sa)).toList ++ rest.map (pm_tr z sa))) := fun r h' H1 locs1 k1 k2 k3 => by
    rw [pm_tl]
    exact hcont r h' H1 locs1 k1 k2 k3 hrc hrs
  rcases hkind with ⟨hk, has, hrest, hnl⟩ | ⟨hk, k, hkn, has, hrest, hob⟩
  · have hlen : (as.map (pm_tr z sa)).length = n := by rw [List.length_map, has, List.length_reverse, List.length_take]; exact Nat.min_eq_left hnl
    have hstk : st.map (pm_tr z sa) = (as.map (pm_tr z sa)).reverse ++ rest.map (pm_tr z sa) := by rw [has, hrest]; exact pm_takeS z sa st n
    rcases hk with rfl | rfl
    · simp only [Bool.and_eq_true] at hres
      obtain ⟨hi, hl2, hl1⟩ := hres
      have hi := Nat.eq_of_beq_eq_true hi
      have hl1 := hmem _ _ hl1
      have hl2 := hkd1 (Nat.eq_of_beq_eq_true hl2)
      have cw := va_cwS (R := pm_rm M) (s := s) (args := args) (own := (pm_nm M).cls) (index := idx) (y := pm_nm Y) (bytes := pm_cd Y) (maxL := pm_nl Y) (ret := pm_rt Y) (rm := pm_rm Y) n hts (pm_goodA hgd hcode (ws := [.methodLink (pm_nm M).cls idx (pm_nm Y), .static (pm_nm Y), .initialized (pm_nm Y).cls]) (by
        intro w hw
        simp only [List.mem_cons, List.not_mem_nil, or_false] at hw
        rcases hw with rfl | rfl | rfl
        · exact hl1
        · exact hl2
        · exact hini)) rfl rfl rfl ⟨hmh.1, hmh.2, hdesc⟩ ⟨hfr, hlo⟩
      rw [hstk]
      exact pm_go (va_runS (As := as.map (pm_tr z sa)) (rest := rest.map (pm_tr z sa)) hS1 hM cw ⟨hbl, fun U h1 h2 => ⟨rfl, hU U h1 h2⟩⟩ rfl hlen (pm_Lv_size hL) rfl (lv_room hcat') (hd1 hi) ⟨hrc, hrs⟩) hS hcontW
    · simp only [Bool.and_eq_true] at hres
      obtain ⟨hi, hl2, hl1⟩ := hres
      have hi := Nat.eq_of_beq_eq_true hi
      have hl1 := hN.1 _ (hmemN _ _ hl1)
      have hl2 := hkd1 (Nat.eq_of_beq_eq_true hl2)
      have cw := va_cnB (R := pm_rm M) (s := s) (args := args) (own := (pm_nm M).cls) (host := HO) (index := idx) (y := pm_nm Y) (bytes := pm_cd Y) (maxL := pm_nl Y) (ret := pm_rt Y) (rm := pm_rm Y) n hts (pm_good hgd hcode) rfl rfl rfl hl1 (hts _ hini) ⟨hmh.1, hmh.2, hdesc⟩ ⟨hfr, hlo⟩
      rw [hstk]
      exact pm_go (va_runSN (As := as.map (pm_tr z sa)) (rest := rest.map (pm_tr z sa)) hS1 hM ⟨cw, hts _ hl2, trivial⟩ ⟨hbl, fun U h1 h2 => ⟨rfl, hU U h1 h2⟩⟩ rfl hlen (pm_Lv_size hL) rfl (lv_room hcat') (hd1 hi) ⟨hrc, hrs⟩) hS hcontW
  · have hnl : n ≤ st.length := Nat.le_of_lt (List.getElem?_eq_some_iff.mp hkn).1
    have hlen : (((st.take n).reverse).map (pm_tr z sa)).length = n := by rw [List.length_map, List.length_reverse, List.length_take]; exact Nat.min_eq_left hnl
    have hstk : st.map (pm_tr z sa) = (((st.take n).reverse).map (pm_tr z sa)).reverse ++ .ref (z + k) :: rest.map (pm_tr z sa) := by rw [hrest]; exact pm_take z sa hkn
    subst has
    match b, hk, hres, hob with
    | 0, _, hres, hob =>
      simp only [Bool.and_eq_true] at hres
      obtain ⟨hi, hl2, hl1⟩ := hres
      have hi := Nat.eq_of_beq_eq_true hi
      have hl1 := hmem _ _ hl1
      obtain ⟨hl2, hl3, hl4⟩ := hkd0 (Nat.eq_of_beq_eq_true hl2)
      obtain ⟨fs, hfs⟩ := hob (by decide)
      cases hcl : cl[pm_ci Y]? with
      | none => rw [hcl] at hl4; cases hl4
      | some rC =>
        rw [hcl] at hl4
        have hcn : rC.1 = (pm_nm Y).cls := Option.some.inj hl4
        have cw := cwV (R := pm_rm M) (s := s) (args := args) (own := (pm_nm M).cls) (C := (pm_nm Y).cls) (index := idx) (y := pm_nm Y) (bytes := pm_cd Y) (maxL := pm_nl Y) (ret := pm_rt Y) (rm := pm_rm Y) n hts (pm_goodA hgd hcode (ws := [.methodLink (pm_nm M).cls idx (pm_nm Y), .instanceMethod (pm_nm Y), .selects (pm_nm Y).cls (pm_nm Y) (pm_nm Y), .initialized (pm_nm Y).cls]) (by
          intro w hw
          simp only [List.mem_cons, List.not_mem_nil, or_false] at hw
          rcases hw with rfl | rfl | rfl | rfl
          · exact hl1
          · exact hl2
          · exact hl3
          · exact hini)) rfl rfl rfl ⟨rfl, hmh.1, hmh.2, hdesc⟩ ⟨hfr, hlo⟩
        have hrv := va_recv hK (pm_P1o hcl (hJ.2 k _ hfs)) hcl (q0 := 0) rfl
        rw [hcn] at hrv
        rw [hstk]
        exact pm_go (va_runV (As := ((st.take n).reverse).map (pm_tr z sa)) (rest := rest.map (pm_tr z sa)) hS1 hM cw ⟨hbl, hrv, fun U h1 h2 => ⟨rfl, hU U h1 h2⟩⟩ rfl hlen (pm_Lv_size hL) rfl (lv_room hcat') (hd0 hi) ⟨hrc, hrs⟩) hS hcontW
    | 3, _, hres, hob =>
      simp only [Bool.and_eq_true] at hres
      obtain ⟨hi, hl2, hl1⟩ := hres
      have hi := Nat.eq_of_beq_eq_true hi
      have hl1 := hN.1 _ (hmemN _ _ hl1)
      obtain ⟨hl2, hl3, hl4⟩ := hkd0 (Nat.eq_of_beq_eq_true hl2)
      obtain ⟨fs, hfs⟩ := hob (by decide)
      cases hcl : cl[pm_ci Y]? with
      | none => rw [hcl] at hl4; cases hl4
      | some rC =>
        rw [hcl] at hl4
        have hcn : rC.1 = (pm_nm Y).cls := Option.some.inj hl4
        have cw := va_cnB (R := pm_rm M) (s := s) (args := args) (own := (pm_nm M).cls) (host := HO) (index := idx) (y := pm_nm Y) (bytes := pm_cd Y) (maxL := pm_nl Y) (ret := pm_rt Y) (rm := pm_rm Y) n hts (pm_good hgd hcode) rfl rfl rfl hl1 (hts _ hini) ⟨hmh.1, hmh.2, hdesc⟩ ⟨hfr, hlo⟩
        have hrv := va_recv hK (pm_P1o hcl (hJ.2 k _ hfs)) hcl (q0 := 0) rfl
        rw [hcn] at hrv
        rw [hstk]
        exact pm_go (va_runVN (As := ((st.take n).reverse).map (pm_tr z sa)) (rest := rest.map (pm_tr z sa)) hS1 hM ⟨cw, hts _ hl2, hts _ hl3⟩ ⟨hbl, hrv, fun U h1 h2 => ⟨rfl, hU U h1 h2⟩⟩ rfl hlen (pm_Lv_size hL) rfl (lv_room hcat') (hd0 hi) ⟨hrc, hrs⟩) hS hcontW
    | 2, _, hres, _ =>
      simp only [Bool.and_eq_true] at hres
      obtain ⟨hi, hl2, hl1⟩ := hres
      have hi := Nat.eq_of_beq_eq_true hi
      have hl1 := hmem _ _ hl1
      obtain ⟨hl2, hl3, hl4⟩ := hkd2 (Nat.eq_of_beq_eq_true hl2)
      rw [hl4] at hM hcode
      have cw := cwI (R := pm_rm M) (s := s) (args := args) (own := (pm_nm M).cls) (index := idx) (y := pm_nm Y) (bytes := pm_cd Y) (maxL := pm_nl Y) (rm := pm_rm Y) n hts (pm_good hgd hcode) rfl rfl rfl (hts _ hini) (hts _ hl1) (hts _ hl2) hl3 ⟨hmh.1, hmh.2, hdesc⟩ ⟨hfr, hlo⟩
      rw [hstk]
      exact pm_go (va_runI (b := z + k) (As := ((st.take n).reverse).map (pm_tr z sa)) (rest := rest.map (pm_tr z sa)) hS1 hM cw ⟨hbl, fun U h1 h2 => ⟨rfl, hU U h1 h2⟩⟩ rfl hlen (pm_Lv_size hL) rfl (lv_room hcat') (hd2 hi) ⟨hrc, hrs⟩) hS hcontW
    | 5, _, hres, _ =>
      simp only [Bool.and_eq_true] at hres
      obtain ⟨hi, hl2, hl1⟩ := hres
      have hi := Nat.eq_of_beq_eq_true hi
      have hl1 := hN.1 _ (hmemN _ _ hl1)
      obtain ⟨hl2, hl3, hl4⟩ := hkd2 (Nat.eq_of_beq_eq_true hl2)
      rw [hl4] at hM hcode
      have cw := va_cnB (R := pm_rm M) (s := s) (args := args) (own := (pm_nm M).cls) (host := HO) (index := idx) (y := pm_nm Y) (bytes := pm_cd Y) (maxL := pm_nl Y) (ret := none) (rm := pm_rm Y) n hts (pm_good hgd hcode) rfl rfl rfl hl1 (hts _ hini) ⟨hmh.1, hmh.2, hdesc⟩ ⟨hfr, hlo⟩
      rw [hstk]
      exact pm_go (va_runIN (b := z + k) (As := ((st.take n).reverse).map (pm_tr z sa)) (rest := rest.map (pm_tr z sa)) hS1 hM ⟨cw, hl3, hts _ hl2⟩ ⟨hbl, fun U h1 h2 => ⟨rfl, hU U h1 h2⟩⟩ rfl hlen (pm_Lv_size hL) rfl (lv_room hcat') (hd2 hi) ⟨hrc, hrs⟩) hS hcontW
    | 1, hk, _, _ => exact absurd (Or.inl rfl) hk
    | 4, hk, _, _ => exact absurd (Or.inr rfl) hk
    | j + 6, _, hres, _ => cases hres
end PMI
