section XO
variable {D : va_G} {tc : Nat → ClassId} {z : Nat} {sa : Nat → Nat} {SL : Nat → Nat} {SV : Nat → Nat → Int32} {l : Launch}
def x_D : List Cond := [.declares (Bundle.initS "java/lang/RuntimeException"), .declares (Bundle.initS "java/lang/Exception"), .declares (Bundle.initS Bundle.tN)]
theorem x_D_w {w : Cond} (hw : w ∈ x_D) {s U : State} (hW : s.WarmedH U.vm) (h : va_Nw w s) : va_Nw w U := by
  simp only [x_D, List.mem_cons, List.not_mem_nil, or_false] at hw
  rcases hw with rfl | rfl | rfl
  · exact va_Nw.warmD hW h
  · exact va_Nw.warmD hW h
  · exact va_Nw.warmD hW h
theorem x_D_b {args : Array Value} {s : State} (h : ∀ w ∈ x_D, va_Nw w s) : ∀ w ∈ x_D, w.before args s = true := by
  intro w hw
  have h1 := h w hw
  simp only [x_D, List.mem_cons, List.not_mem_nil, or_false] at hw
  rcases hw with rfl | rfl | rfl
  · exact va_Nw.use rfl h1
  · exact va_Nw.use rfl h1
  · exact va_Nw.use rfl h1
def x_F (z : Nat) (l : Launch) (U : State) (H : Heap) : Prop := l.stackTraces = false ∧ (∃ a : Nat, vk_R "TurnSchool" 292 "no such shelf" a U) ∧ (∃ a : Nat, vk_R "TurnSchool" 305 "no such element" a U) ∧ vx_Zq Bundle.tN "UNASSIGNED_STACK" Bundle.steD (pm_A z) U H ∧ vx_Zq Bundle.tN "SUPPRESSED_SENTINEL" Bundle.listD (pm_A z) U H ∧ va_Nc "java/lang/IllegalStateException" "java/lang/IllegalArgumentException" U ∧ ∀ w ∈ x_D, va_Nw w U
theorem x_F_moved {s U : State} {H H1 : Heap} (hW : s.WarmedH U.vm) (hq : ∀ a : Nat, a < H.size → ¬ pm_A z a → H1[a]? = H[a]?) (h : x_F z l s H) : x_F z l U H1 := by
  obtain ⟨h1, ⟨a2, h2⟩, ⟨a3, h3⟩, h4, h5, h6, h7⟩ := h
  exact ⟨h1, ⟨a2, vk_R.warm hW h2⟩, ⟨a3, vk_R.warm hW h3⟩, vx_Zq.moved hW.alike (vx_Zq.kept h4 hq), vx_Zq.moved hW.alike (vx_Zq.kept h5 hq), va_Nc.moved hW.alike h6, fun w hw => x_D_w hw hW (h7 w hw)⟩
def x_U (SL : Nat → Nat) (SV : Nat → Nat → Int32) (D : va_G) (tc : Nat → ClassId) (z : Nat) (sa : Nat → Nat) (l : Launch) (h : pm_H) (U : State) : Prop := pm_U SL SV j_nst j_cl j_SN j_HN D tc z sa h U ∧ x_F z l U U.heap
theorem x_nN : ∀ w ∈ j_nst, pm_isN w = true := fun w hw => (List.mem_filter.mp hw).2
theorem x_gd : ∀ w ∈ j_tbl, goodWord w = true := fun w hw => (List.mem_filter.mp hw).2
theorem x_blind (av : List Value) (h : pm_H) : FrameBlind (va_Pc av (x_U SL SV D tc z sa l h)) := by
  intro a U g mk q
  obtain ⟨q0, q1, q2⟩ := q
  have hp := pm_blind (SL := SL) (SV := SV) (cl := j_cl) (SN := j_SN) (HN := j_HN) (D := D) (tc := tc) (z := z) (sa := sa) x_nN av h a U g mk ⟨q0, q1⟩
  exact ⟨q0, hp.2, x_F_moved (s := U) (U := U.calling g mk a) (H := U.heap) (H1 := U.heap) (State.WarmedH.refl U) (fun _ _ _ => rfl) q2⟩
theorem x_hp (h : pm_H) : ∃ (S : Nat → pm_E) (n : Nat), h = hp S n := by
  refine ⟨fun i => h.getD i (.inr (0, [])), h.length, List.ext_getElem? fun i => ?_⟩
  rcases Nat.lt_or_ge i h.length with hi | hi
  · rw [hp_get hi]
    simp [List.getD_eq_getElem?_getD, List.getElem?_eq_getElem hi]
  · rw [List.getElem?_eq_none hi, List.getElem?_eq_none (by rw [hp_len]; exact hi)]
theorem x_wi (h : pm_H) (p0 : Int32) : pm_Snd SL SV j_MT j_mem j_memN j_HO j_tbl j_nst j_cl j_SN j_HN (fun _ _ _ => True) D tc z sa mm_X11_within (0, pm_en (pm_nl mm_X11_within) [.int p0, .int 8], [], h, 0, 0) (fun r h' => h' = h ∧ ((p0 < 0 ∨ 8 ≤ p0) ∧ r = some (.int 0) ∨ (0 ≤ p0 ∧ p0 < 8) ∧ r = some (.int 1))) := by
  refine pm_sound (EX := fun _ _ _ => False) (j_G (fun _ _ _ _ => trivial)) (fun M c R h => h.elim) ?_
  obtain ⟨S, n, rfl⟩ := x_hp h
  have key : PQ SL SV (fun _ _ _ => False) mm_X11_within 0 [.int p0, .int 8] [] S n 0 0 (fun r S' n' => S' = S ∧ n' = n ∧ ((p0 < 0 ∨ 8 ≤ p0) ∧ r = some (.int 0) ∨ (0 ≤ p0 ∧ p0 < 8) ∧ r = some (.int 1))) := by
    refine q_iload_n rfl rfl rfl ?_
    refine q_iflt rfl rfl (fun c1 => ?_) (fun c1 => ?_)
    · refine q_iconst rfl rfl ?_
      refine q_iret rfl rfl rfl ?_
      exact ⟨rfl, rfl, Or.inl ⟨Or.inl c1, rfl⟩⟩
    · refine q_iload_n rfl rfl rfl ?_
      refine q_iload_n rfl rfl rfl ?_
      refine q_icge rfl rfl (fun c2 => ?_) (fun c2 => ?_)
      · refine q_iconst rfl rfl ?_
        refine q_iret rfl rfl rfl ?_
        exact ⟨rfl, rfl, Or.inl ⟨Or.inr c2, rfl⟩⟩
      · refine q_iconst rfl rfl ?_
        refine q_goto rfl ?_
        refine q_iret rfl rfl rfl ?_
        exact ⟨rfl, rfl, Or.inr ⟨⟨i_nlt c1, i_nle c2⟩, rfl⟩⟩
  unfold PQ at key
  refine pm_W_mono _ _ _ _ _ _ key ?_
  rintro r h' ⟨S', n', e, rfl, rfl, hr⟩
  exact ⟨e, hr⟩
theorem x_ab1 {p0 : Int32} (h : p0 < 0 ∨ 8 ≤ p0) (h2 : 0 ≤ p0 ∧ p0 ≤ 7) : False := by
  simp only [Int32.lt_iff_toInt_lt, Int32.le_iff_toInt_le] at h h2
  have e0 : (0 : Int32).toInt = 0 := rfl
  have e7 : (7 : Int32).toInt = 7 := rfl
  have e8 : (8 : Int32).toInt = 8 := rfl
  omega
theorem x_ab2 {p0 : Int32} (h : 0 ≤ p0 ∧ p0 < 8) (h2 : p0 < 0 ∨ 8 ≤ p0) : False := by
  simp only [Int32.lt_iff_toInt_lt, Int32.le_iff_toInt_le] at h h2
  have e0 : (0 : Int32).toInt = 0 := rfl
  have e8 : (8 : Int32).toInt = 8 := rfl
  omega
theorem x_in {p0 : Int32} (h : 0 ≤ p0 ∧ p0 < 8) : vp_in p0 8 ∧ p0.toNatClampNeg < 8 := by
  have e1 : p0.toNatClampNeg = p0.toInt.toNat := rfl
  have e0 : (0 : Int32).toInt = 0 := rfl
  have e8 : (8 : Int32).toInt = 8 := rfl
  simp only [Int32.lt_iff_toInt_lt, Int32.le_iff_toInt_le] at h
  have hlt : p0.toNatClampNeg < 8 := by omega
  refine ⟨fun q => ?_, hlt⟩
  rcases q with q | q
  · rw [Int32.lt_iff_toInt_lt] at q; omega
  · omega
def x_ns : List String := ["java/lang/RuntimeException", "java/lang/Exception"]
def x_rE : Room := { frames := 7, cells := 1, slots := 6, locals := 200 }
def x_rL : Room := { frames := 8, cells := 1, slots := 6, locals := 240 }
def x_M : pm_M := (pm_nm mm_X11_element, pm_cd mm_X11_element, 5, some .long, 9, x_rE, 107, 0, pm_hn mm_X11_element, fun _ => none)
def x_XC (D : va_G) (tc : Nat → ClassId) (z : Nat) (sa : Nat → Nat) (h : pm_H) (En : String) : String → State → State → Prop := fun E st t => E = En ∧ pm_J j_cl D tc z sa (h ++ [.inr (99, [])]) t.heap ∧ va_F (pm_A z) st t
def x_no : Array Value → State → Outcome → State → Prop := fun _ _ _ _ => False
theorem x_lwA : ∀ w ∈ (vx_atS "TurnSchool" 294 "java/lang/IllegalArgumentException" x_ns).filter goodWord, w ∈ lw_tbl := by decide +kernel
theorem x_lwS : ∀ w ∈ (vx_atS "TurnSchool" 307 "java/lang/IllegalStateException" x_ns).filter goodWord, w ∈ lw_tbl := by decide +kernel
theorem x_ngA : ∀ w ∈ (vx_atS "TurnSchool" 294 "java/lang/IllegalArgumentException" x_ns).filter (fun w => !goodWord w), w ∈ Cond.castable "java/lang/IllegalArgumentException" "java/lang/IllegalArgumentException" :: x_D := by decide +kernel
theorem x_ngS : ∀ w ∈ (vx_atS "TurnSchool" 307 "java/lang/IllegalStateException" x_ns).filter (fun w => !goodWord w), w ∈ Cond.castable "java/lang/IllegalStateException" "java/lang/IllegalStateException" :: x_D := by decide +kernel
theorem x_goA : ∀ w ∈ Cond.classLink "TurnSchool" 290 "java/lang/IllegalArgumentException" :: Cond.initialized "java/lang/IllegalArgumentException" :: vx_atS "TurnSchool" 294 "java/lang/IllegalArgumentException" x_ns, vx_ot w = true := by decide +kernel
theorem x_goS : ∀ w ∈ Cond.classLink "TurnSchool" 303 "java/lang/IllegalStateException" :: Cond.initialized "java/lang/IllegalStateException" :: vx_atS "TurnSchool" 307 "java/lang/IllegalStateException" x_ns, vx_ot w = true := by decide +kernel
theorem x_caA {args : Array Value} {s : State} (hN : pm_N j_nst j_HN s) : (Cond.castable "java/lang/IllegalArgumentException" "java/lang/IllegalArgumentException").before args s = true := va_Nw.use rfl (hN.1 _ (j_memN_ok 1026 _ (by decide +kernel)))
theorem x_caS {args : Array Value} {s : State} (hN : pm_N j_nst j_HN s) : (Cond.castable "java/lang/IllegalStateException" "java/lang/IllegalStateException").before args s = true := va_Nw.use rfl (hN.1 _ (j_memN_ok 950 _ (by decide +kernel)))
theorem x_haA {args : Array Value} {s : State} (hts : ∀ w ∈ j_tbl, w.before args s = true) (hN : pm_N j_nst j_HN s) (hD : ∀ w ∈ x_D, va_Nw w s) : ∀ w ∈ vx_atS "TurnSchool" 294 "java/lang/IllegalArgumentException" x_ns, w.before args s = true :=
  vx_hat (fun w hw => hts w (List.mem_filter.mpr ⟨x_lwA w hw, (List.mem_filter.mp hw).2⟩)) x_ngA (vx_c (x_caA hN) (x_D_b hD))
theorem x_haS {args : Array Value} {s : State} (hts : ∀ w ∈ j_tbl, w.before args s = true) (hN : pm_N j_nst j_HN s) (hD : ∀ w ∈ x_D, va_Nw w s) : ∀ w ∈ vx_atS "TurnSchool" 307 "java/lang/IllegalStateException" x_ns, w.before args s = true :=
  vx_hat (fun w hw => hts w (List.mem_filter.mpr ⟨x_lwS w hw, (List.mem_filter.mp hw).2⟩)) x_ngS (vx_c (x_caS hN) (x_D_b hD))
theorem x_d0 : decode (pm_cd x_M) 0 = .ok (.iload_n 1, 1) := by decide +kernel
theorem x_d1 : decode (pm_cd x_M) 1 = .ok (.bipush 8, 2) := by decide +kernel
theorem x_d3 : decode (pm_cd x_M) 3 = .ok (.invokestatic 110, 3) := by decide +kernel
theorem x_d6 : decode (pm_cd x_M) 6 = .ok (.ifCond .ne 14, 3) := by decide +kernel
theorem x_d9 : decode (pm_cd x_M) 9 = .ok (.new 290, 3) := by decide +kernel
theorem x_d12 : decode (pm_cd x_M) 12 = .ok (.dup, 1) := by decide +kernel
theorem x_d13 : decode (pm_cd x_M) 13 = .ok (.ldc_w 292, 3) := by decide +kernel
theorem x_d16 : decode (pm_cd x_M) 16 = .ok (.invokespecial 294, 3) := by decide +kernel
theorem x_d19 : decode (pm_cd x_M) 19 = .ok (.athrow, 1) := by decide +kernel
theorem x_d20 : decode (pm_cd x_M) 20 = .ok (.aload_n 0, 1) := by decide +kernel
theorem x_d21 : decode (pm_cd x_M) 21 = .ok (.getfield 60, 3) := by decide +kernel
theorem x_d24 : decode (pm_cd x_M) 24 = .ok (.iload_n 1, 1) := by decide +kernel
theorem x_d25 : decode (pm_cd x_M) 25 = .ok (.aaload, 1) := by decide +kernel
theorem x_d26 : decode (pm_cd x_M) 26 = .ok (.astore_n 3, 1) := by decide +kernel
theorem x_d27 : decode (pm_cd x_M) 27 = .ok (.aload_n 3, 1) := by decide +kernel
theorem x_d28 : decode (pm_cd x_M) 28 = .ok (.instanceof 283, 3) := by decide +kernel
theorem x_d31 : decode (pm_cd x_M) 31 = .ok (.ifCond .eq 30, 3) := by decide +kernel
theorem x_d61 : decode (pm_cd x_M) 61 = .ok (.aload_n 3, 1) := by decide +kernel
theorem x_d62 : decode (pm_cd x_M) 62 = .ok (.instanceof 287, 3) := by decide +kernel
theorem x_d65 : decode (pm_cd x_M) 65 = .ok (.ifCond .eq 31, 3) := by decide +kernel
theorem x_d96 : decode (pm_cd x_M) 96 = .ok (.new 303, 3) := by decide +kernel
theorem x_d99 : decode (pm_cd x_M) 99 = .ok (.dup, 1) := by decide +kernel
theorem x_d100 : decode (pm_cd x_M) 100 = .ok (.ldc_w 305, 3) := by decide +kernel
theorem x_d103 : decode (pm_cd x_M) 103 = .ok (.invokespecial 307, 3) := by decide +kernel
theorem x_d106 : decode (pm_cd x_M) 106 = .ok (.athrow, 1) := by decide +kernel
theorem x_push {h : pm_H} {s t : State} {H1 : Heap} {locs1 : List Loc} {En : String} (hJ : pm_J j_cl D tc z sa h H1) (hS : va_S (pm_A z) s.heap H1 locs1) (hsz : t.heap.size = H1.size + 1) (hkp : ∀ q : Nat, q < H1.size → t.heap[q]? = H1[q]?) : x_XC D tc z sa h En En s t := by
  refine ⟨rfl, pm_J_push hJ hsz hkp ?_, by rw [hsz]; exact Nat.le_succ_of_le hS.1, fun q h1 h2 => by rw [hkp q (Nat.lt_of_lt_of_le h1 hS.1)]; exact hS.2.1 q h1 h2⟩
  intro r hr
  have e : j_cl[99]? = none := rfl
  rw [e] at hr
  cases hr
set_option maxHeartbeats 4000000 in
set_option maxRecDepth 20000 in
theorem x_el {h : pm_H} {p0 p1 : Int32} {fs : List Value} {f : Nat → Option Nat} {En : String} (h0 : h[0]? = some (.inr (9, fs))) (h7 : fs[7]? = some (.ref 43)) (h43 : h[43]? = some (.inl (4, 8, .inr (.inr (.inr (.inr f)))))) (hf : ∀ j, j < 8 → f j = none)
    (hcase : ((p0 < 0 ∨ 8 ≤ p0) ∧ En = "java/lang/IllegalArgumentException") ∨ ((0 ≤ p0 ∧ p0 ≤ 7) ∧ En = "java/lang/IllegalStateException")) :
    vx_Met l (pm_nm x_M) (Cond.code (pm_nm x_M) (pm_cd x_M) (pm_nl x_M) (pm_rt x_M) :: j_tbl) x_rE (va_Pc ([Value.ref 0, .int p0, .int p1].map (pm_tr z sa)) (x_U SL SV D tc z sa l h)) x_no (x_XC D tc z sa h En) 1 6 (pm_A z) := by
  refine vx_ofW (cc := pm_cd x_M) (maxL := pm_nl x_M) (ret := pm_rt x_M) (by decide +kernel) rfl ?_
  intro p e s m args below meth c s₁ B hml hexc hv
  obtain ⟨rfl, ⟨hJ, hK, hSt, hN, hz⟩, hlt, ⟨a2, hs2⟩, ⟨a3, hs3⟩, hZU, hZN, -, hD⟩ := hv
  have hts0 := atoms_spec (ws := Cond.code (pm_nm x_M) (pm_cd x_M) (pm_nl x_M) (pm_rt x_M) :: j_tbl) B.pre
  have hts : ∀ w ∈ j_tbl, w.before ([Value.ref 0, .int p0, .int p1].map (pm_tr z sa)).toArray s = true := fun w hw => hts0 w (List.mem_cons_of_mem _ hw)
  have hown : s.vm.findClass "TurnSchool" = some m.cls := findClass_of_methodNamed B.named
  have hlocks := B.notSynchronized
  have hx := B.exec
  have hb : c.code = pm_cd x_M := B.bytes
  have hC : pm_Ctx SL SV j_tbl j_nst j_cl j_SN j_HN (fun _ _ _ => True) D tc z sa x_M p l s m ([Value.ref 0, .int p0, .int p1].map (pm_tr z sa)).toArray meth c := ⟨hx, hb, B.returns, hml, hown, hts, hlocks, fun h => absurd h (by decide), hK, hSt, hN, hz, trivial⟩
  have hL0 := pm_Lv_en z sa [Value.ref 0, .int p0, .int p1] (n := 5) (Nat.le_of_ble_eq_true rfl)
  have key : ∀ ls : Array Slot, pm_Lv z sa ls 5 (pm_en 5 [Value.ref 0, .int p0, .int p1]) → W p l e x_rE s m ([Value.ref 0, .int p0, .int p1].map (pm_tr z sa)).toArray below meth c s.heap [] 0 0 (vx_MQ below x_no (x_XC D tc z sa h En) ([Value.ref 0, .int p0, .int p1].map (pm_tr z sa)).toArray s 1 6 (pm_A z)) (F0 m 0 ls []) := by
    intro ls hL
    have hsize : ls.size = c.maxLocals := by rw [pm_Lv_size hL, hml]; rfl
    refine lv_iload_n hx hb x_d0 rfl (pm_Lv_at hL (i := 1) (v := .int p0) rfl rfl) ?_
    refine lv_bipush (v := 8) hx hb x_d1 rfl ?_
    refine pm_snd_call (M := x_M) (st := [.int 8, .int p0]) (h := h) (L := pm_en 5 [Value.ref 0, .int p0, .int p1]) (pc := 3) (c0 := 0) (s0 := 0) (idx := 110) (a := 135) (b := 1) (n := 2) (inv := 1) (o := .inr (.inr (.inr ([], 135, [.int p0, .int 8], [])))) (j_G (XP := fun _ _ _ => True) (fun _ _ _ _ => trivial)) hC hL hJ va_S.rf (Nat.zero_le _) (Nat.zero_le _) (by decide +kernel) (fun q => absurd q (by decide)) (fun _ => x_d3) (fun q => absurd q (by decide)) rfl ?_
    intro q hq
    cases hq
    refine ⟨trivial, mm_X11_within, _, rfl, x_wi h p0, ?_⟩
    rintro r h' H1 locs1 ⟨rfl, hr⟩ hJ1 hS1 - -
    rcases hr with ⟨hr, rfl⟩ | ⟨hr, rfl⟩
    · show W p l e x_rE s m _ below meth c H1 locs1 0 0 _ (F0 m 6 ls [.int 0])
      refine lv_if_ne (tgt := 20) hx hb x_d6 (by decide) (fun c => absurd rfl c) (fun _ => ?_)
      rcases hcase with ⟨-, rfl⟩ | ⟨hc, -⟩
      · exact vx_throwSW (pc := 9) (own := "TurnSchool") (cls := "java/lang/IllegalArgumentException") (text := "no such shelf") (names := x_ns) (ik := 290) (is := 292) (ic := 294) (sa := a2) (A := pm_A z) hx hb hlt hown (by decide +kernel) (by decide +kernel) (hts _ (j_mem_ok 1024 _ (by decide +kernel))) (hts _ (j_mem_ok 103 _ (by decide +kernel))) hs2 (x_haA hts hN hD) x_goA hZU hZN hS1 hsize x_d9 x_d12 x_d13 x_d16 x_d19 (fun x hx => (hexc x hx).elim) (by decide) (by decide) (by decide) (by decide) hlocks (fun t _ hsz hkp => x_push hJ1 hS1 hsz hkp) (fun q hq => hS1.2.2 q hq) (by decide) (by decide)
      · exact (x_ab1 hr hc).elim
    · show W p l e x_rE s m _ below meth c H1 locs1 0 0 _ (F0 m 6 ls [.int 1])
      refine lv_if_ne (tgt := 20) hx hb x_d6 (by decide) (fun _ => ?_) (fun c => absurd c (by decide))
      rcases hcase with ⟨hc, -⟩ | ⟨-, rfl⟩
      · exact (x_ab2 hr hc).elim
      · have hcl : j_cl[9]? = some ("TurnSchool", jT9, 12) := rfl
        obtain ⟨hin8, hlt8⟩ := x_in hr
        have hGG := j_G (XP := fun _ _ _ => True) (fun _ _ _ _ => trivial)
        have hcls := hGG.2.2.2.2.2.1
        refine lv_aload_n hx hb x_d20 rfl (pm_Lv_at hL (i := 0) (v := .ref 0) rfl rfl) ?_
        refine va_get hx hb hts (hcls 9 _ hcl).1 hown hK (pm_P1o hcl (hJ1.2 0 _ h0)) 0 rfl hcl 7 (by decide) (hts _ (j_mem_ok 304 _ (by decide +kernel))) (fun _ h9 => h9) (pm_V_tr z sa fs h7) x_d21 ?_
        refine lv_iload_n hx hb x_d24 rfl (pm_Lv_at hL (i := 1) (v := .int p0) rfl rfl) ?_
        refine va_aldq hx hb hK (pm_P1 (hJ1.2 43 _ h43)) 0 4 rfl rfl hin8 x_d25 (W.eq (g2 := F0 m 26 ls [.null]) ?_ ?_)
        · show F0 m 26 ls [va_rf ((f p0.toNatClampNeg).map (fun k => z + k))] = F0 m 26 ls [.null]
          rw [hf _ hlt8]
          rfl
        · obtain ⟨lv, hlv, hm⟩ := id hL
          refine lv_astore_nN (lv := lv) hx hb x_d26 rfl hlv (by decide) rfl (fun ls' h' => ?_)
          have hL' := pm_Lv_s1 (w := .null) hm h'
          have hsize' : ls'.size = c.maxLocals := by rw [pm_Lv_size hL', hml]; rfl
          refine lv_aload_nN hx hb x_d27 rfl (pm_Lv_at hL' (i := 3) (v := .null) rfl rfl) ?_
          refine lv_instN hx hb x_d28 ?_
          refine lv_if_eq (tgt := 61) hx hb x_d31 (by decide) (fun _ => ?_) (fun c => absurd rfl c)
          refine lv_aload_nN hx hb x_d61 rfl (pm_Lv_at hL' (i := 3) (v := .null) rfl rfl) ?_
          refine lv_instN hx hb x_d62 ?_
          refine lv_if_eq (tgt := 96) hx hb x_d65 (by decide) (fun _ => ?_) (fun c => absurd rfl c)
          exact vx_throwSW (pc := 96) (own := "TurnSchool") (cls := "java/lang/IllegalStateException") (text := "no such element") (names := x_ns) (ik := 303) (is := 305) (ic := 307) (sa := a3) (A := pm_A z) hx hb hlt hown (by decide +kernel) (by decide +kernel) (hts _ (j_mem_ok 943 _ (by decide +kernel))) (hts _ (j_mem_ok 104 _ (by decide +kernel))) hs3 (x_haS hts hN hD) x_goS hZU hZN hS1 hsize' x_d96 x_d99 x_d100 x_d103 x_d106 (fun x hx => (hexc x hx).elim) (by decide) (by decide) (by decide) (by decide) hlocks (fun t _ hsz hkp => x_push hJ1 hS1 hsz hkp) (fun q hq => hS1.2.2 q hq) (by decide) (by decide)
  rw [lg_entry_eq]
  exact key _ hL0
def x_yL : MethodName := ⟨"TurnSchoolLaw", "element", "(LTurnSchool;II[J)I"⟩
def x_hh : List (Nat × Nat × Nat × Nat) := [(0, 9, 12, 13), (0, 9, 16, 15)]
def x_wsL : List Cond := Cond.codeWith x_yL method_3_code 5 (some .int) x_hh :: j_tbl
theorem x_l0 : decode method_3_code 0 = .ok (.aload_n 3, 1) := by decide +kernel
theorem x_l1 : decode method_3_code 1 = .ok (.iconst 0, 1) := by decide +kernel
theorem x_l2 : decode method_3_code 2 = .ok (.aload_n 0, 1) := by decide +kernel
theorem x_l3 : decode method_3_code 3 = .ok (.iload_n 1, 1) := by decide +kernel
theorem x_l4 : decode method_3_code 4 = .ok (.iload_n 2, 1) := by decide +kernel
theorem x_l5 : decode method_3_code 5 = .ok (.invokevirtual 7, 3) := by decide +kernel
theorem x_l12 : decode method_3_code 12 = .ok (.astore 4, 2) := by decide +kernel
theorem x_l14 : decode method_3_code 14 = .ok (.iconst 1, 1) := by decide +kernel
theorem x_l15 : decode method_3_code 15 = .ok (.ireturn, 1) := by decide +kernel
theorem x_l16 : decode method_3_code 16 = .ok (.astore 4, 2) := by decide +kernel
theorem x_l18 : decode method_3_code 18 = .ok (.iconst 2, 1) := by decide +kernel
theorem x_l19 : decode method_3_code 19 = .ok (.ireturn, 1) := by decide +kernel
theorem x_inV : ∀ w ∈ [Cond.methodLink "TurnSchoolLaw" 7 (pm_nm x_M), Cond.instanceMethod (pm_nm x_M), Cond.selects "TurnSchool" (pm_nm x_M) (pm_nm x_M), Cond.initialized "TurnSchool"], w ∈ j_tbl := by
  intro w hw
  simp only [List.mem_cons, List.not_mem_nil, or_false] at hw
  rcases hw with rfl | rfl | rfl | rfl
  · exact j_mem_ok 1020 _ (by decide +kernel)
  · exact j_mem_ok 1021 _ (by decide +kernel)
  · exact j_mem_ok 1022 _ (by decide +kernel)
  · exact j_mem_ok 83 _ (by decide +kernel)
set_option maxHeartbeats 4000000 in
set_option maxRecDepth 20000 in
theorem x_le {h : pm_H} {p0 p1 k : Int32} {fs : List Value} {f : Nat → Option Nat} (h0 : h[0]? = some (.inr (9, fs))) (h7 : fs[7]? = some (.ref 43)) (h43 : h[43]? = some (.inl (4, 8, .inr (.inr (.inr (.inr f)))))) (hf : ∀ j, j < 8 → f j = none)
    (hcase : ((p0 < 0 ∨ 8 ≤ p0) ∧ k = 1) ∨ ((0 ≤ p0 ∧ p0 ≤ 7) ∧ k = 2)) :
    Met l x_yL x_wsL x_rL (va_Pc ([Value.ref 0, .int p0, .int p1, .ref 81].map (pm_tr z sa)) (x_U SL SV D tc z sa l h)) (pm_Qc j_cl D tc z sa (fun r h' => r = some (.int k) ∧ h' = h ++ [.inr (99, [])])) 1 6 (pm_A z) := by
  refine va_MetW (cc := method_3_code) (maxL := 5) (ret := some .int) (hh := x_hh) (by decide +kernel) rfl ?_
  intro p e s m args below meth c s₁ B hml hv
  obtain ⟨rfl, hUU, hFF⟩ := hv
  obtain ⟨hJ, hK, hSt, hN, hz⟩ := id hUU
  obtain ⟨-, -, -, -, -, hNc, -⟩ := id hFF
  have hts0 := atoms_spec (ws := x_wsL) B.pre
  have hts : ∀ w ∈ j_tbl, w.before ([Value.ref 0, .int p0, .int p1, .ref 81].map (pm_tr z sa)).toArray s = true := fun w hw => hts0 w (List.mem_cons_of_mem _ hw)
  have htab : c.exceptionTable.toList = tableOf x_hh := vx_table (x := x_yL) B (hts0 _ List.mem_cons_self)
  have hown : s.vm.findClass "TurnSchoolLaw" = some m.cls := findClass_of_methodNamed B.named
  have hlocks := B.notSynchronized
  have hx := B.exec
  have hb : c.code = method_3_code := B.bytes
  have hrt := B.returns
  have hL0 := pm_Lv_en z sa [Value.ref 0, .int p0, .int p1, .ref 81] (n := 5) (Nat.le_of_ble_eq_true rfl)
  have key : ∀ ls : Array Slot, pm_Lv z sa ls 5 (pm_en 5 [Value.ref 0, .int p0, .int p1, .ref 81]) → W p l e x_rL s m ([Value.ref 0, .int p0, .int p1, .ref 81].map (pm_tr z sa)).toArray below meth c s.heap [] 0 0 (MQ below (pm_Qc j_cl D tc z sa (fun r h' => r = some (.int k) ∧ h' = h ++ [.inr (99, [])])) ([Value.ref 0, .int p0, .int p1, .ref 81].map (pm_tr z sa)).toArray s 1 6 (pm_A z)) (F0 m 0 ls []) := by
    intro ls hL
    refine lv_aload_n hx hb x_l0 rfl (pm_Lv_at hL (i := 3) (v := .ref 81) rfl rfl) ?_
    refine lv_iconst (v := 0) hx hb x_l1 rfl ?_
    refine lv_aload_n hx hb x_l2 rfl (pm_Lv_at hL (i := 0) (v := .ref 0) rfl rfl) ?_
    refine lv_iload_n hx hb x_l3 rfl (pm_Lv_at hL (i := 1) (v := .int p0) rfl rfl) ?_
    refine lv_iload_n hx hb x_l4 rfl (pm_Lv_at hL (i := 2) (v := .int p1) rfl rfl) ?_
    obtain ⟨En, hE⟩ : ∃ En : String, ((p0 < 0 ∨ 8 ≤ p0) ∧ En = "java/lang/IllegalArgumentException") ∨ ((0 ≤ p0 ∧ p0 ≤ 7) ∧ En = "java/lang/IllegalStateException") := by
      rcases hcase with ⟨h1, -⟩ | ⟨h1, -⟩
      · exact ⟨_, Or.inl ⟨h1, rfl⟩⟩
      · exact ⟨_, Or.inr ⟨h1, rfl⟩⟩
    have hcl9 : j_cl[9]? = some ("TurnSchool", jT9, 12) := rfl
    have hrv := va_recv hK (pm_P1o hcl9 (hJ.2 0 _ h0)) hcl9 (q0 := 0) rfl
    have cw := cwV (R := x_rL) (s := s) (args := ([Value.ref 0, .int p0, .int p1, .ref 81].map (pm_tr z sa)).toArray) (own := "TurnSchoolLaw") (C := "TurnSchool") (index := 7) (y := pm_nm x_M) (bytes := pm_cd x_M) (maxL := pm_nl x_M) (ret := pm_rt x_M) (rm := x_rE) (mc := 1) (ms := 6) 2 hts (pm_goodA x_gd (c := Cond.code (pm_nm x_M) (pm_cd x_M) (pm_nl x_M) (pm_rt x_M)) (j_mem_ok 1023 _ (by decide +kernel)) x_inV) rfl rfl rfl ⟨rfl, by decide, by decide, by decide +kernel⟩ ⟨by decide, by decide⟩
    have hrun := vx_runV (g := F0 m 5 ls [.int p1, .int p0, .ref (z + 0), .int 0, .ref (z + 81)]) (As := [.int p0, .int p1]) (b := z + 0) (rest := [.int 0, .ref (z + 81)]) (locs := []) (cells := 0) (slots := 0) (meth := meth) (p := p) (e := e) (below := below) ⟨hx, hb, hml, hown, hts⟩ (x_el (p1 := p1) h0 h7 h43 hf hE) cw ⟨x_blind _ h, hrv, fun U h1 h2 => ⟨rfl, pm_U_of x_nN hK hSt hN hz hJ va_S.rf h1 h2, by rw [h1]; exact x_F_moved h2 (fun _ _ _ => rfl) hFF⟩⟩ rfl rfl (pm_Lv_size hL) rfl (lv_room (Nat.le_of_ble_eq_true rfl)) x_l5 ⟨by decide, by decide⟩
    intro T hT X
    rcases hrun T hT X with ⟨v, st₀, t0, T', L, _, _, _, _, _, hQ, _⟩ | ⟨q, st₀, t0, T', L, E, ce, e0, X', hLf, e1, e2, ⟨hEE, hJ', hF'⟩, hce, hcv, hcl, st⟩
    · exact hQ.elim
    · have hS' : va_S (pm_A z) s.heap T'.heap ([] ++ L) := (vx_keep e0 e1 va_S.rf (fun q _ h => h) (fun q h => h) hLf hF').2.2
      have hq : ∀ t : State, t.heap = T'.heap → s.WarmedH t.vm → pm_Qc j_cl D tc z sa (fun r h' => r = some (.int k) ∧ h' = h ++ [.inr (99, [])]) ([Value.ref 0, .int p0, .int p1, .ref 81].map (pm_tr z sa)).toArray s (.returned (some (.int k))) t := fun t ht hW => ⟨⟨some (.int k), h ++ [.inr (99, [])], rfl, ⟨rfl, rfl⟩, by rw [ht, e1]; exact hJ'⟩, hS'.F ht⟩
      have hcell : T'.heap[q]? = some ce := by rw [e1]; exact hce
      obtain ⟨lv, hlv, hm⟩ := id hL
      have hvx : vx_W p l e x_rL s m ([Value.ref 0, .int p0, .int p1, .ref 81].map (pm_tr z sa)).toArray below meth c T'.heap ([] ++ L) 1 6 (MQ below (pm_Qc j_cl D tc z sa (fun r h' => r = some (.int k) ∧ h' = h ++ [.inr (99, [])])) ([Value.ref 0, .int p0, .int p1, .ref 81].map (pm_tr z sa)).toArray s 1 6 (pm_A z)) (F0 m 5 ls [.int 0, .ref (z + 81)]) q := by
        rcases hcase with ⟨hc, rfl⟩ | ⟨hc, rfl⟩
        · rcases hE with ⟨-, rfl⟩ | ⟨hc2, -⟩
          · subst hEE
            refine vx_catch (own := "TurnSchoolLaw") (name := "java/lang/IllegalArgumentException") hown [] ⟨0, 9, 12, 13⟩ [⟨0, 9, 16, 15⟩] (by rw [htab]; rfl) (fun z hz => by cases hz) (by decide) (by decide) (hts _ (j_mem_ok 1018 _ (by decide +kernel))) (x_caA hN) hcell hcv hcl ?_
            refine lv_astore (lv := lv) hx hb x_l12 hlv (by decide) rfl (fun ls' h' => ?_)
            refine lv_iconst (v := 1) hx hb x_l14 rfl ?_
            exact W.zret hx hb hrt rfl hq hS'.2.2 x_l15 hlocks
          · exact (x_ab1 hc hc2).elim
        · rcases hE with ⟨hc2, -⟩ | ⟨-, rfl⟩
          · exact (x_ab1 hc2 hc).elim
          · subst hEE
            refine vx_catch (own := "TurnSchoolLaw") (name := "java/lang/IllegalStateException") hown [⟨0, 9, 12, 13⟩] ⟨0, 9, 16, 15⟩ [] (by rw [htab]; rfl) (fun z hz => ?_) (by decide) (by decide) (hts _ (j_mem_ok 1019 _ (by decide +kernel))) (x_caS hN) hcell hcv hcl ?_
            · rw [List.mem_singleton] at hz
              subst hz
              exact Or.inr ⟨by decide, "java/lang/IllegalArgumentException", hts _ (j_mem_ok 1018 _ (by decide +kernel)), hNc⟩
            · refine lv_astore (lv := lv) hx hb x_l16 hlv (by decide) rfl (fun ls' h' => ?_)
              refine lv_iconst (v := 2) hx hb x_l18 rfl ?_
              exact W.zret hx hb hrt rfl hq hS'.2.2 x_l19 hlocks
      obtain ⟨t2, a1, b1⟩ := hvx T' rfl X'
      exact ⟨t2, st.trans a1, b1⟩
  rw [lg_entry_eq]
  exact key _ hL0
theorem x_inS : ∀ w ∈ [Cond.methodLink "TurnSchoolLaw" 127 x_yL, Cond.static x_yL, Cond.initialized x_yL.cls], w ∈ j_tbl := by
  intro w hw
  simp only [List.mem_cons, List.not_mem_nil, or_false] at hw
  rcases hw with rfl | rfl | rfl
  · exact j_mem_ok 1015 _ (by decide +kernel)
  · exact j_mem_ok 1016 _ (by decide +kernel)
  · exact j_mem_ok 82 _ (by decide +kernel)
theorem x_d1091 : decode (pm_cd mm_L_law) 1091 = .ok (.invokestatic 127, 3) := by decide +kernel
set_option maxHeartbeats 4000000 in
set_option maxRecDepth 20000 in
theorem x_ok : pm_XO SL SV j_MT j_EX j_mem j_memN j_HO j_tbl j_nst j_cl j_SN j_HN (fun M l s => pm_kd M = 7 → x_F z l s s.heap) D tc z sa := by
  intro M c0 R hE p l e s m args below meth cd H locs ls Q hC hwt hL hJ hS hc0 hs0 hk
  obtain ⟨pc, L, st, h, c, sl⟩ := c0
  dsimp only at hL hJ hc0 hs0 ⊢
  obtain ⟨hx, hb, hr, hml, hown, hts, hlocks, hname, hK, hSt, hN, hz, hxp⟩ := id hC
  rcases hE with hE | hE | hE
  · obtain ⟨idx, x, y, st', e1, hd, hl, hrm, rfl⟩ := hE
    dsimp only at e1 hd
    subst e1
    rw [Bool.and_eq_true] at hrm
    exact va_mmax hx hb (by rw [hml, pm_Lv_size hL]) hown (hts _ (j_mem_ok _ _ hl)) (hts _ (j_mem_ok 853 _ (by decide +kernel))) (hts _ (j_mem_ok 93 _ (by decide +kernel))) (hts _ (j_mem_ok 854 _ (by decide +kernel))) (Nat.le_of_ble_eq_true hrm.1) (by rw [pm_cat_tr]; exact Nat.le_of_ble_eq_true hrm.2) hc0 hs0 hd (hk (pc + 3, L, .int (if x < y then y else x) :: st', h, c, sl) H locs ls rfl hL hJ hS hc0 hs0)
  · obtain ⟨idx, x, y, st', e1, hd, hl, hrm, rfl⟩ := hE
    dsimp only at e1 hd
    subst e1
    rw [Bool.and_eq_true] at hrm
    exact va_mmin hx hb (by rw [hml, pm_Lv_size hL]) hown (hts _ (j_mem_ok _ _ hl)) (hts _ (j_mem_ok 509 _ (by decide +kernel))) (hts _ (j_mem_ok 93 _ (by decide +kernel))) (hts _ (j_mem_ok 510 _ (by decide +kernel))) (Nat.le_of_ble_eq_true hrm.1) (by rw [pm_cat_tr]; exact Nat.le_of_ble_eq_true hrm.2) hc0 hs0 hd (hk (pc + 3, L, .int (if y < x then y else x) :: st', h, c, sl) H locs ls rfl hL hJ hS hc0 hs0)
  · obtain ⟨rfl, e1, p0, p1, k, st', fs, f, e2, hcat, h0, h7, h43, hf, hcase, hcc, hss, rfl⟩ := hE
    dsimp only at e1 e2 h0 h43 hcc hss
    subst e1 e2
    have hxF : x_F z l s s.heap := hxp rfl
    have cw := vx_cwSW (R := pm_rm mm_L_law) (s := s) (args := args) (own := "TurnSchoolLaw") (index := 127) (y := x_yL) (bytes := method_3_code) (maxL := 5) (ret := some .int) (hh := x_hh) (rm := x_rL) (mc := 1) (ms := 6) (ws := x_wsL) 4 hts (pm_goodA x_gd (c := Cond.codeWith x_yL method_3_code 5 (some .int) x_hh) (j_mem_ok 1017 _ (by decide +kernel)) x_inS) rfl rfl rfl ⟨by decide, by decide, by decide +kernel⟩ ⟨by decide, by decide⟩
    have hrun := vx_runSW (g := F0 m 1091 ls ((.ref 81 :: .int p1 :: .int p0 :: .ref 0 :: st').map (pm_tr z sa))) (As := [Value.ref 0, .int p0, .int p1, .ref 81].map (pm_tr z sa)) (rest := st'.map (pm_tr z sa)) (locs := locs) (cells := c) (slots := sl) (meth := meth) (p := p) (e := e) (below := below) ⟨hx, hb, hml, hown, hts⟩ (x_le (SL := SL) (SV := SV) h0 h7 h43 hf hcase) cw ⟨x_blind _ h, fun U h1 h2 => ⟨rfl, pm_U_of x_nN hK hSt hN hz hJ hS h1 h2, by rw [h1]; exact x_F_moved h2 hS.2.1 hxF⟩⟩ rfl rfl (pm_Lv_size hL) rfl (lv_room (by rw [pm_cat_tr, hcat]; decide)) x_d1091 ⟨hcc, hss⟩
    refine pm_go hrun hS ?_
    rintro r h' H1 locs1 ⟨rfl, rfl⟩ hJ1 hS1
    exact hk (1094, L, .int k :: st', h ++ [.inr (99, [])], c + 1, sl + 6) H1 locs1 ls ⟨[], rfl⟩ hL hJ1 hS1 hcc hss
end XO
