section XQ
variable {D : va_G} {tc : Nat → ClassId} {z : Nat} {sa : Nat → Nat} {L0 : Nat} {xs : Nat → Int32} {l : Launch}
def x_XE (D : va_G) (tc : Nat → ClassId) (z : Nat) (sa : Nat → Nat) (h : pm_H) (k : Int32) : String → State → State → Prop := fun E st t => ((k = 1 ∧ E = "java/lang/IllegalArgumentException") ∨ (k = 2 ∧ E = "java/lang/IllegalStateException")) ∧ pm_J j_cl D tc z sa (h ++ [.inr (99, [])]) t.heap ∧ va_F (pm_A z) st t
def x_QE (D : va_G) (tc : Nat → ClassId) (z : Nat) (sa : Nat → Nat) (h : pm_H) (k : Int32) (v : Int64) : Array Value → State → Outcome → State → Prop := fun ar st oc t => k = 0 ∧ pm_Qc j_cl D tc z sa (fun r h' => r = some (.long v) ∧ h' = h) ar st oc t
theorem x_ab {p0 b : Int32} (h : p0 < 0 ∨ b ≤ p0) (h2 : 0 ≤ p0 ∧ p0 < b) : False := by
  simp only [Int32.lt_iff_toInt_lt, Int32.le_iff_toInt_le] at h h2
  have e0 : (0 : Int32).toInt = 0 := rfl
  omega
theorem x_in {p0 : Int32} {m : Nat} (hm : m < 2 ^ 31) (h : 0 ≤ p0 ∧ p0 < Int32.ofNat m) : vp_in p0 m := by
  have e1 : (Int32.ofNat m).toInt = (m : Int) := nI_toInt hm
  simp only [Int32.lt_iff_toInt_lt, Int32.le_iff_toInt_le, e1] at h
  exact vp_in_iff.mpr h
theorem x_nin {p0 : Int32} {m : Nat} (hm : m < 2 ^ 31) (h : p0 < 0 ∨ Int32.ofNat m ≤ p0) : ¬ vp_in p0 m := by
  have e1 : (Int32.ofNat m).toInt = (m : Int) := nI_toInt hm
  simp only [Int32.lt_iff_toInt_lt, Int32.le_iff_toInt_le, e1] at h
  intro q
  have := vp_in_iff.mp q
  have e0 : (0 : Int32).toInt = 0 := rfl
  omega
set_option maxHeartbeats 8000000 in
set_option maxRecDepth 20000 in
theorem x_el {h : pm_H} {p0 p1 k : Int32} {v : Int64} {fs : List Value} {f : Nat → Option Nat} (h0 : h[0]? = some (.inr (9, fs))) (h7 : fs[7]? = some (.ref 43)) (h43 : h[43]? = some (.inl (4, 8, .inr (.inr (.inr (.inr f)))))) (he : o_el h f p0 p1 k v) :
    vx_Met l (pm_nm x_M) (Cond.code (pm_nm x_M) (pm_cd x_M) (pm_nl x_M) (pm_rt x_M) :: j_tbl) x_rE (va_Pc ([Value.ref 0, .int p0, .int p1].map (pm_tr z sa)) (pm_U (j_SL L0) (j_SV xs) j_nst j_cl j_SN j_HN (x_F z) D tc z sa l h)) (x_QE D tc z sa h k v) (x_XE D tc z sa h k) 1 6 (pm_A z) := by
  refine vx_ofW (cc := pm_cd x_M) (maxL := pm_nl x_M) (ret := pm_rt x_M) (by decide +kernel) rfl ?_
  intro p e s m args below meth c s₁ B hml hexc hv
  obtain ⟨rfl, hJ, hK, hSt, hN, hz, hxp⟩ := hv
  obtain ⟨hlt, ⟨a2, hs2⟩, ⟨a3, hs3⟩, -, hZU, hZN, hNC, hD⟩ := id hxp
  have hts0 := atoms_spec (ws := Cond.code (pm_nm x_M) (pm_cd x_M) (pm_nl x_M) (pm_rt x_M) :: j_tbl) B.pre
  have hts : ∀ w ∈ j_tbl, w.before ([Value.ref 0, .int p0, .int p1].map (pm_tr z sa)).toArray s = true := fun w hw => hts0 w (List.mem_cons_of_mem _ hw)
  have hown : s.vm.findClass "TurnSchool" = some m.cls := findClass_of_methodNamed B.named
  have hlocks := B.notSynchronized
  have hx := B.exec
  have hb : c.code = pm_cd x_M := B.bytes
  have hC : pm_Ctx (j_SL L0) (j_SV xs) j_tbl j_nst j_cl j_SN j_HN (x_F z) D tc z sa x_M p l s m ([Value.ref 0, .int p0, .int p1].map (pm_tr z sa)).toArray meth c := ⟨hx, hb, B.returns, hml, hown, hts, hlocks, fun h => absurd h (by decide), hK, hSt, hN, hz, hxp⟩
  have hL0 := pm_Lv_en z sa [Value.ref 0, .int p0, .int p1] (n := 5) (Nat.le_of_ble_eq_true rfl)
  have hGG := j_G (XP := x_F z) (z := z) x_mv
  have hcls := hGG.2.2.2.2.2.1
  have hcl9 : j_cl[9]? = some ("TurnSchool", jT9, 12) := rfl
  have hcl8 : j_cl[8]? = some ("TurnSchool$Statement", jT8, 2) := rfl
  have hcl7 : j_cl[7]? = some ("TurnSchool$ShortRow", jT7, 1) := rfl
  have hcl2 : j_cl[2]? = some ("TurnSchool$LongRow", jT2, 1) := rfl
  have pu : ∀ {H1 : Heap} {locs1 : List Loc} {t : State}, pm_J j_cl D tc z sa h H1 → va_S (pm_A z) s.heap H1 locs1 → t.heap.size = H1.size + 1 → (∀ q : Nat, q < H1.size → t.heap[q]? = H1[q]?) → pm_J j_cl D tc z sa (h ++ [.inr (99, [])]) t.heap ∧ va_F (pm_A z) s t := fun hJ1 hS1 hsz hkp => (x_push (En := "") hJ1 hS1 hsz hkp).2
  have thr : k = 2 → ∀ (ls : Array Slot) (H1 : Heap) (locs1 : List Loc), ls.size = c.maxLocals → pm_J j_cl D tc z sa h H1 → va_S (pm_A z) s.heap H1 locs1 → W p l e x_rE s m ([Value.ref 0, .int p0, .int p1].map (pm_tr z sa)).toArray below meth c H1 locs1 0 0 (vx_MQ below (x_QE D tc z sa h k v) (x_XE D tc z sa h k) ([Value.ref 0, .int p0, .int p1].map (pm_tr z sa)).toArray s 1 6 (pm_A z)) (F0 m 96 ls []) := fun hk ls H1 locs1 hsize hJ1 hS1 =>
    vx_throwSW (pc := 96) (own := "TurnSchool") (cls := "java/lang/IllegalStateException") (text := "no such element") (names := x_ns) (ik := 303) (is := 305) (ic := 307) (sa := a3) (A := pm_A z) hx hb hlt hown (by decide +kernel) (by decide +kernel) (hts _ (j_mem_ok 943 _ (by decide +kernel))) (hts _ (j_mem_ok 104 _ (by decide +kernel))) hs3 (x_haS hts hN hD) x_goS hZU hZN hS1 hsize x_d96 x_d99 x_d100 x_d103 x_d106 (fun x hx => (hexc x hx).elim) (by decide) (by decide) (by decide) (by decide) hlocks (fun t _ hsz hkp => ⟨Or.inr ⟨hk, rfl⟩, pu hJ1 hS1 hsz hkp⟩) (fun q hq => hS1.2.2 q hq) (by decide) (by decide)
  have no61 : k = 2 → ∀ (C : String) (y : Nat) (ls : Array Slot) (Lx : List Value) (H1 : Heap) (locs1 : List Loc), va_Nc C "TurnSchool$ShortRow" s → (∃ cell : Cell, H1[z + y]? = some cell ∧ cell.vm.isStatics = false ∧ s.vm.findClass C = some cell.cls) → pm_Lv z sa ls 5 Lx → Lx[3]? = some (.ref y) → pm_J j_cl D tc z sa h H1 → va_S (pm_A z) s.heap H1 locs1 → W p l e x_rE s m ([Value.ref 0, .int p0, .int p1].map (pm_tr z sa)).toArray below meth c H1 locs1 0 0 (vx_MQ below (x_QE D tc z sa h k v) (x_XE D tc z sa h k) ([Value.ref 0, .int p0, .int p1].map (pm_tr z sa)).toArray s 1 6 (pm_A z)) (F0 m 61 ls []) := by
    intro hk C y ls Lx H1 locs1 hnc hr hLx h3 hJ1 hS1
    refine lv_aload_n hx hb x_d61 rfl (pm_Lv_at hLx (i := 3) (v := .ref y) h3 rfl) ?_
    refine va_instNo hx hb hown (hts _ (j_mem_ok 900 _ (by decide +kernel))) hnc hr x_d62 ?_
    refine lv_if_eq (tgt := 96) hx hb x_d65 (by decide) (fun _ => ?_) (fun c => absurd rfl c)
    exact thr hk ls H1 locs1 (by rw [pm_Lv_size hLx, hml]; rfl) hJ1 hS1
  have key : ∀ ls : Array Slot, pm_Lv z sa ls 5 (pm_en 5 [Value.ref 0, .int p0, .int p1]) → W p l e x_rE s m ([Value.ref 0, .int p0, .int p1].map (pm_tr z sa)).toArray below meth c s.heap [] 0 0 (vx_MQ below (x_QE D tc z sa h k v) (x_XE D tc z sa h k) ([Value.ref 0, .int p0, .int p1].map (pm_tr z sa)).toArray s 1 6 (pm_A z)) (F0 m 0 ls []) := by
    intro ls hL
    have hsize : ls.size = c.maxLocals := by rw [pm_Lv_size hL, hml]; rfl
    refine lv_iload_n hx hb x_d0 rfl (pm_Lv_at hL (i := 1) (v := .int p0) rfl rfl) ?_
    refine lv_bipush (v := 8) hx hb x_d1 rfl ?_
    refine pm_snd_call (M := x_M) (st := [.int 8, .int p0]) (h := h) (L := pm_en 5 [Value.ref 0, .int p0, .int p1]) (pc := 3) (c0 := 0) (s0 := 0) (idx := 110) (a := 135) (b := 1) (n := 2) (inv := 1) (o := .inr (.inr (.inr ([], 135, [.int p0, .int 8], [])))) hGG hC hL hJ va_S.rf (Nat.zero_le _) (Nat.zero_le _) (by decide +kernel) (fun q => absurd q (by decide)) (fun _ => x_d3) (fun q => absurd q (by decide)) rfl ?_
    intro q hq
    cases hq
    refine ⟨trivial, mm_X11_within, _, rfl, x_wi h p0 8, ?_⟩
    rintro r h' H1 locs1 ⟨eh, hr⟩ hJ1 hS1 - -
    rw [eh] at hJ1
    rcases hr with ⟨hr, rfl⟩ | ⟨hr, rfl⟩
    · show W p l e x_rE s m _ below meth c H1 locs1 0 0 _ (F0 m 6 ls [.int 0])
      refine lv_if_ne (tgt := 20) hx hb x_d6 (by decide) (fun c => absurd rfl c) (fun _ => ?_)
      rcases he with ⟨-, hk⟩ | ⟨hc, -⟩
      · exact vx_throwSW (pc := 9) (own := "TurnSchool") (cls := "java/lang/IllegalArgumentException") (text := "no such shelf") (names := x_ns) (ik := 290) (is := 292) (ic := 294) (sa := a2) (A := pm_A z) hx hb hlt hown (by decide +kernel) (by decide +kernel) (hts _ (j_mem_ok 1024 _ (by decide +kernel))) (hts _ (j_mem_ok 103 _ (by decide +kernel))) hs2 (x_haA hts hN hD) x_goA hZU hZN hS1 hsize x_d9 x_d12 x_d13 x_d16 x_d19 (fun x hx => (hexc x hx).elim) (by decide) (by decide) (by decide) (by decide) hlocks (fun t _ hsz hkp => ⟨Or.inl ⟨hk, rfl⟩, pu hJ1 hS1 hsz hkp⟩) (fun q hq => hS1.2.2 q hq) (by decide) (by decide)
      · exact (x_ab hr hc).elim
    · show W p l e x_rE s m _ below meth c H1 locs1 0 0 _ (F0 m 6 ls [.int 1])
      refine lv_if_ne (tgt := 20) hx hb x_d6 (by decide) (fun _ => ?_) (fun c => absurd c (by decide))
      rcases he with ⟨hc, -⟩ | ⟨-, he⟩
      · exact (x_ab hc hr).elim
      · have hin8 : vp_in p0 8 := x_in (m := 8) (by decide) hr
        refine lv_aload_n hx hb x_d20 rfl (pm_Lv_at hL (i := 0) (v := .ref 0) rfl rfl) ?_
        refine va_get hx hb hts (hcls 9 _ hcl9).1 hown hK (pm_P1o hcl9 (hJ1.2 0 _ h0)) 0 rfl hcl9 7 (by decide) (hts _ (j_mem_ok 304 _ (by decide +kernel))) (fun _ h9 => h9) (pm_V_tr z sa fs h7) x_d21 ?_
        refine lv_iload_n hx hb x_d24 rfl (pm_Lv_at hL (i := 1) (v := .int p0) rfl rfl) ?_
        obtain ⟨lv, hlv, hm⟩ := id hL
        rcases he with ⟨hf, hk⟩ | ⟨y, hf, he⟩
        · refine va_aldq hx hb hK (pm_P1 (hJ1.2 43 _ h43)) 0 4 rfl rfl hin8 x_d25 (W.eq (g2 := F0 m 26 ls [.null]) ?_ ?_)
          · show F0 m 26 ls [va_rf ((f p0.toNatClampNeg).map (fun k => z + k))] = F0 m 26 ls [.null]
            rw [hf]
            rfl
          · refine lv_astore_nN (lv := lv) hx hb x_d26 rfl hlv (by decide) rfl (fun ls' h' => ?_)
            have hL' := pm_Lv_s1 (w := .null) hm h'
            refine lv_aload_nN hx hb x_d27 rfl (pm_Lv_at hL' (i := 3) (v := .null) rfl rfl) ?_
            refine lv_instN hx hb x_d28 ?_
            refine lv_if_eq (tgt := 61) hx hb x_d31 (by decide) (fun _ => ?_) (fun c => absurd rfl c)
            refine lv_aload_nN hx hb x_d61 rfl (pm_Lv_at hL' (i := 3) (v := .null) rfl rfl) ?_
            refine lv_instN hx hb x_d62 ?_
            refine lv_if_eq (tgt := 96) hx hb x_d65 (by decide) (fun _ => ?_) (fun c => absurd rfl c)
            exact thr hk ls' H1 locs1 (by rw [pm_Lv_size hL', hml]; rfl) hJ1 hS1
        · refine va_aldq hx hb hK (pm_P1 (hJ1.2 43 _ h43)) 0 4 rfl rfl hin8 x_d25 (W.eq (g2 := F0 m 26 ls [.ref (z + y)]) ?_ ?_)
          · show F0 m 26 ls [va_rf ((f p0.toNatClampNeg).map (fun k => z + k))] = F0 m 26 ls [.ref (z + y)]
            rw [hf]
            rfl
          · refine lv_astore_n (lv := lv) hx hb x_d26 rfl hlv (by decide) rfl (fun ls' h' => ?_)
            have hL' : pm_Lv z sa ls' 5 (pm_s1 (pm_en 5 [Value.ref 0, .int p0, .int p1]) 3 (.ref y)) := pm_Lv_s1 (w := .ref y) hm h'
            refine lv_aload_n hx hb x_d27 rfl (pm_Lv_at hL' (i := 3) (v := .ref y) rfl rfl) ?_
            rcases he with ⟨a, b, hy, hk⟩ | ⟨zz, len, g, hy, hzz, hlen, he⟩ | ⟨zz, len, g, hy, hzz, hlen, he⟩
            · have hrv := va_recv hK (pm_P1o hcl8 (hJ1.2 y _ hy)) hcl8 (q0 := 0) rfl
              refine va_instNo hx hb hown (hts _ (j_mem_ok 884 _ (by decide +kernel))) (hNC ("TurnSchool$Statement", "TurnSchool$LongRow") (by decide)) hrv x_d28 ?_
              refine lv_if_eq (tgt := 61) hx hb x_d31 (by decide) (fun _ => ?_) (fun c => absurd rfl c)
              exact no61 hk "TurnSchool$Statement" y ls' _ H1 locs1 (hNC ("TurnSchool$Statement", "TurnSchool$ShortRow") (by decide)) hrv hL' rfl hJ1 hS1
            · have hrv := va_recv hK (pm_P1o hcl2 (hJ1.2 y _ hy)) hcl2 (q0 := 0) rfl
              have hat := (hK.1 2 _ hcl2).2
              refine va_instS hx hb hown (hts _ (j_mem_ok 884 _ (by decide +kernel))) hat hrv x_d28 ?_
              refine lv_if_eq (tgt := 61) hx hb x_d31 (by decide) (fun c => absurd c (by decide)) (fun _ => ?_)
              refine lv_aload_n hx hb x_d34 rfl (pm_Lv_at hL' (i := 3) (v := .ref y) rfl rfl) ?_
              refine va_castS hx hb hown (hts _ (j_mem_ok 884 _ (by decide +kernel))) hat hrv x_d35 ?_
              obtain ⟨lv2, hlv2, hm2⟩ := id hL'
              refine lv_astore (lv := lv2) hx hb x_d38 hlv2 (by decide) rfl (fun ls2 h2 => ?_)
              have hL2 : pm_Lv z sa ls2 5 (pm_s1 (pm_s1 (pm_en 5 [Value.ref 0, .int p0, .int p1]) 3 (.ref y)) 4 (.ref y)) := pm_Lv_s1 (w := .ref y) hm2 h2
              refine lv_iload_n hx hb x_d40 rfl (pm_Lv_at hL2 (i := 2) (v := .int p1) rfl rfl) ?_
              refine lv_aload hx hb x_d41 (pm_Lv_at hL2 (i := 4) (v := .ref y) rfl rfl) ?_
              refine va_get hx hb hts (hcls 2 _ hcl2).1 hown hK (pm_P1o hcl2 (hJ1.2 y _ hy)) 0 rfl hcl2 0 (by decide) (hts _ (j_mem_ok 892 _ (by decide +kernel))) (fun _ h9 => h9) (pm_V_tr z sa [.ref zz] (k := 0) rfl) x_d43 ?_
              refine va_alen hx hb hK (pm_P1 (hJ1.2 zz _ hzz)) 0 1 rfl rfl rfl x_d46 ?_
              refine pm_snd_call (M := x_M) (st := [.int (Int32.ofNat len), .int p1]) (h := h) (L := pm_s1 (pm_s1 (pm_en 5 [Value.ref 0, .int p0, .int p1]) 3 (.ref y)) 4 (.ref y)) (pc := 47) (c0 := 0) (s0 := 0) (idx := 110) (a := 135) (b := 1) (n := 2) (inv := 1) (o := .inr (.inr (.inr ([], 135, [.int p1, .int (Int32.ofNat len)], [])))) hGG hC hL2 hJ1 hS1 (Nat.zero_le _) (Nat.zero_le _) (by decide +kernel) (fun q => absurd q (by decide)) (fun _ => x_d47) (fun q => absurd q (by decide)) rfl ?_
              intro q hq
              cases hq
              refine ⟨trivial, mm_X11_within, _, rfl, x_wi h p1 (Int32.ofNat len), ?_⟩
              rintro r h'' H2 locs2 ⟨eh2, hr2⟩ hJ2 hS2 - -
              rw [eh2] at hJ2
              have hrv2 := va_recv hK (pm_P1o hcl2 (hJ2.2 y _ hy)) hcl2 (q0 := 0) rfl
              rcases hr2 with ⟨hr2, rfl⟩ | ⟨hr2, rfl⟩
              · show W p l e x_rE s m _ below meth c H2 locs2 0 0 _ (F0 m 50 ls2 [.int 0])
                refine lv_if_eq (tgt := 61) hx hb x_d50 (by decide) (fun _ => ?_) (fun c => absurd rfl c)
                have hk : k = 2 := by
                  rcases he with ⟨-, hk⟩ | ⟨hin, -⟩
                  · exact hk
                  · exact absurd hin (x_nin (by omega) hr2)
                exact no61 hk "TurnSchool$LongRow" y ls2 _ H2 locs2 (hNC ("TurnSchool$LongRow", "TurnSchool$ShortRow") (by decide)) hrv2 hL2 rfl hJ2 hS2
              · show W p l e x_rE s m _ below meth c H2 locs2 0 0 _ (F0 m 50 ls2 [.int 1])
                refine lv_if_eq (tgt := 61) hx hb x_d50 (by decide) (fun c => absurd c (by decide)) (fun _ => ?_)
                have hin := x_in (by omega) hr2
                refine lv_aload hx hb x_d53 (pm_Lv_at hL2 (i := 4) (v := .ref y) rfl rfl) ?_
                refine va_get hx hb hts (hcls 2 _ hcl2).1 hown hK (pm_P1o hcl2 (hJ2.2 y _ hy)) 0 rfl hcl2 0 (by decide) (hts _ (j_mem_ok 892 _ (by decide +kernel))) (fun _ h9 => h9) (pm_V_tr z sa [.ref zz] (k := 0) rfl) x_d55 ?_
                refine lv_iload_n hx hb x_d58 rfl (pm_Lv_at hL2 (i := 2) (v := .int p1) rfl rfl) ?_
                refine va_lald hx hb hK (pm_P1 (hJ2.2 zz _ hzz)) 0 1 rfl rfl hin x_d59 ?_
                rcases he with ⟨hnin, -⟩ | ⟨-, hk, hvv⟩
                · exact absurd hin hnin
                · refine vx_ret (W.widen (Nat.zero_le _) (Nat.zero_le _) (W.lret (Qc := x_QE D tc z sa h k v) hx hb B.returns ?_ hS2.2.2 x_d60 hlocks))
                  exact fun t ht hW => ⟨hk, ⟨some (.long v), h, by rw [hvv]; rfl, ⟨rfl, rfl⟩, by rw [ht]; exact hJ2⟩, hS2.F ht⟩
            · have hrv := va_recv hK (pm_P1o hcl7 (hJ1.2 y _ hy)) hcl7 (q0 := 0) rfl
              have hat := (hK.1 7 _ hcl7).2
              refine va_instNo hx hb hown (hts _ (j_mem_ok 884 _ (by decide +kernel))) (hNC ("TurnSchool$ShortRow", "TurnSchool$LongRow") (by decide)) hrv x_d28 ?_
              refine lv_if_eq (tgt := 61) hx hb x_d31 (by decide) (fun _ => ?_) (fun c => absurd rfl c)
              refine lv_aload_n hx hb x_d61 rfl (pm_Lv_at hL' (i := 3) (v := .ref y) rfl rfl) ?_
              refine va_instS hx hb hown (hts _ (j_mem_ok 900 _ (by decide +kernel))) hat hrv x_d62 ?_
              refine lv_if_eq (tgt := 96) hx hb x_d65 (by decide) (fun c => absurd c (by decide)) (fun _ => ?_)
              refine lv_aload_n hx hb x_d68 rfl (pm_Lv_at hL' (i := 3) (v := .ref y) rfl rfl) ?_
              refine va_castS hx hb hown (hts _ (j_mem_ok 900 _ (by decide +kernel))) hat hrv x_d69 ?_
              obtain ⟨lv2, hlv2, hm2⟩ := id hL'
              refine lv_astore (lv := lv2) hx hb x_d72 hlv2 (by decide) rfl (fun ls2 h2 => ?_)
              have hL2 : pm_Lv z sa ls2 5 (pm_s1 (pm_s1 (pm_en 5 [Value.ref 0, .int p0, .int p1]) 3 (.ref y)) 4 (.ref y)) := pm_Lv_s1 (w := .ref y) hm2 h2
              refine lv_iload_n hx hb x_d74 rfl (pm_Lv_at hL2 (i := 2) (v := .int p1) rfl rfl) ?_
              refine lv_aload hx hb x_d75 (pm_Lv_at hL2 (i := 4) (v := .ref y) rfl rfl) ?_
              refine va_get hx hb hts (hcls 7 _ hcl7).1 hown hK (pm_P1o hcl7 (hJ1.2 y _ hy)) 0 rfl hcl7 0 (by decide) (hts _ (j_mem_ok 908 _ (by decide +kernel))) (fun _ h9 => h9) (pm_V_tr z sa [.ref zz] (k := 0) rfl) x_d77 ?_
              refine va_alen hx hb hK (pm_P1 (hJ1.2 zz _ hzz)) 0 3 rfl rfl rfl x_d80 ?_
              refine pm_snd_call (M := x_M) (st := [.int (Int32.ofNat len), .int p1]) (h := h) (L := pm_s1 (pm_s1 (pm_en 5 [Value.ref 0, .int p0, .int p1]) 3 (.ref y)) 4 (.ref y)) (pc := 81) (c0 := 0) (s0 := 0) (idx := 110) (a := 135) (b := 1) (n := 2) (inv := 1) (o := .inr (.inr (.inr ([], 135, [.int p1, .int (Int32.ofNat len)], [])))) hGG hC hL2 hJ1 hS1 (Nat.zero_le _) (Nat.zero_le _) (by decide +kernel) (fun q => absurd q (by decide)) (fun _ => x_d81) (fun q => absurd q (by decide)) rfl ?_
              intro q hq
              cases hq
              refine ⟨trivial, mm_X11_within, _, rfl, x_wi h p1 (Int32.ofNat len), ?_⟩
              rintro r h'' H2 locs2 ⟨eh2, hr2⟩ hJ2 hS2 - -
              rw [eh2] at hJ2
              rcases hr2 with ⟨hr2, rfl⟩ | ⟨hr2, rfl⟩
              · show W p l e x_rE s m _ below meth c H2 locs2 0 0 _ (F0 m 84 ls2 [.int 0])
                refine lv_if_eq (tgt := 96) hx hb x_d84 (by decide) (fun _ => ?_) (fun c => absurd rfl c)
                have hk : k = 2 := by
                  rcases he with ⟨-, hk⟩ | ⟨hin, -⟩
                  · exact hk
                  · exact absurd hin (x_nin (by omega) hr2)
                exact thr hk ls2 H2 locs2 (by rw [pm_Lv_size hL2, hml]; rfl) hJ2 hS2
              · show W p l e x_rE s m _ below meth c H2 locs2 0 0 _ (F0 m 84 ls2 [.int 1])
                refine lv_if_eq (tgt := 96) hx hb x_d84 (by decide) (fun c => absurd c (by decide)) (fun _ => ?_)
                have hin := x_in (by omega) hr2
                refine lv_aload hx hb x_d87 (pm_Lv_at hL2 (i := 4) (v := .ref y) rfl rfl) ?_
                refine va_get hx hb hts (hcls 7 _ hcl7).1 hown hK (pm_P1o hcl7 (hJ2.2 y _ hy)) 0 rfl hcl7 0 (by decide) (hts _ (j_mem_ok 908 _ (by decide +kernel))) (fun _ h9 => h9) (pm_V_tr z sa [.ref zz] (k := 0) rfl) x_d89 ?_
                refine lv_iload_n hx hb x_d92 rfl (pm_Lv_at hL2 (i := 2) (v := .int p1) rfl rfl) ?_
                refine va_sald hx hb hK (pm_P1 (hJ2.2 zz _ hzz)) 0 3 rfl rfl hin x_d93 ?_
                refine lv_i2l hx hb x_d94 rfl ?_
                rcases he with ⟨hnin, -⟩ | ⟨-, hk, hvv⟩
                · exact absurd hin hnin
                · refine vx_ret (W.widen (Nat.zero_le _) (Nat.zero_le _) (W.lret (Qc := x_QE D tc z sa h k v) hx hb B.returns ?_ hS2.2.2 x_d95 hlocks))
                  exact fun t ht hW => ⟨hk, ⟨some (.long v), h, by rw [hvv]; rfl, ⟨rfl, rfl⟩, by rw [ht]; exact hJ2⟩, hS2.F ht⟩
  rw [lg_entry_eq]
  exact key _ hL0
end XQ
