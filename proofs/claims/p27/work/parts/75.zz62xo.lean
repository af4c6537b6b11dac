/-! the oracle is right -/
section XO
variable {D : va_G} {tc : Nat → ClassId} {z : Nat} {sa : Nat → Nat} {L0 : Nat} {xs : Nat → Int32} {l : Launch}
def x_D : List Cond := [.declares (Bundle.initS "java/lang/RuntimeException"), .declares (Bundle.initS "java/lang/Exception"), .declares (Bundle.initS Bundle.tN)]
theorem x_D_w {w : Cond} (hw : w ∈ x_D) {s U : State} (hW : s.WarmedH U.vm) (h : va_Nw w s) : va_Nw w U := by
  simp only [x_D, List.mem_cons, List.not_mem_nil, or_false] at hw
  rcases hw with rfl | rfl | rfl
  · exact va_Nw.warmD hW h
  · exact va_Nw.warmD hW h
  · exact va_Nw.warmD hW h
theorem x_D_b {args : Array Value} {s : State} (h : ∀ w ∈ x_D, va_Nw w s) : ∀ w ∈ x_D, w.before args s = true := by
  intro w hw
  have h1 := h w hw
  simp only [x_D, List.mem_cons, List.not_mem_nil, or_false] at hw
  rcases hw with rfl | rfl | rfl
  · exact va_Nw.use rfl h1
  · exact va_Nw.use rfl h1
  · exact va_Nw.use rfl h1
def x_NC : List (String × String) := [("TurnSchool$LongRow", "TurnSchool$ShortRow"), ("TurnSchool$LongRow", "TurnSchool$Statement"), ("TurnSchool$ShortRow", "TurnSchool$LongRow"), ("TurnSchool$ShortRow", "TurnSchool$Statement"), ("TurnSchool$Statement", "TurnSchool$LongRow"), ("TurnSchool$Statement", "TurnSchool$ShortRow"), ("java/lang/IllegalStateException", "java/lang/IllegalArgumentException")]
def x_F (z : Nat) (l : Launch) (U : State) (H : Heap) : Prop := l.stackTraces = false ∧ (∃ a : Nat, vk_R "TurnSchool" 292 "no such shelf" a U) ∧ (∃ a : Nat, vk_R "TurnSchool" 305 "no such element" a U) ∧ (∃ a : Nat, vk_R "TurnSchool$Statement" 24 "the lock isn't the hand's" a U) ∧ vx_Zq Bundle.tN "UNASSIGNED_STACK" Bundle.steD (pm_A z) U H ∧ vx_Zq Bundle.tN "SUPPRESSED_SENTINEL" Bundle.listD (pm_A z) U H ∧ (∀ q ∈ x_NC, va_Nc q.1 q.2 U) ∧ ∀ w ∈ x_D, va_Nw w U
theorem x_mv (l : Launch) (s U : State) (H H1 : Heap) (hW : s.WarmedH U.vm) (hq : ∀ a : Nat, a < H.size → ¬ pm_A z a → H1[a]? = H[a]?) (h : x_F z l s H) : x_F z l U H1 := by
  obtain ⟨h1, ⟨a2, h2⟩, ⟨a3, h3⟩, ⟨a8, h8⟩, h4, h5, h6, h7⟩ := h
  exact ⟨h1, ⟨a2, vk_R.warm hW h2⟩, ⟨a3, vk_R.warm hW h3⟩, ⟨a8, vk_R.warm hW h8⟩, vx_Zq.moved hW.alike (vx_Zq.kept h4 hq), vx_Zq.moved hW.alike (vx_Zq.kept h5 hq), fun q hq => va_Nc.moved hW.alike (h6 q hq), fun w hw => x_D_w hw hW (h7 w hw)⟩
theorem x_nN : ∀ w ∈ j_nst, pm_isN w = true := fun w hw => (List.mem_filter.mp hw).2
theorem x_gd : ∀ w ∈ j_tbl, goodWord w = true := fun w hw => (List.mem_filter.mp hw).2
theorem x_hp (h : pm_H) : ∃ (S : Nat → pm_E) (n : Nat), h = hp S n := by
  obtain ⟨S, e⟩ := hp_of h
  exact ⟨S, _, e⟩
theorem l_wi {SL : Nat → Nat} {SV : Nat → Nat → Int32} {EX : pm_M → pm_C → (pm_C → Prop) → Prop} {S : Nat → pm_E} {n : Nat} {K : q_K} {x b : Int32} (hK1 : (x < 0 ∨ b ≤ x) → K (some (.int 0)) S n) (hK2 : (0 ≤ x ∧ x < b) → K (some (.int 1)) S n) : PM SL SV EX mm_X11_within [.int x, .int b] S n K := by
  change PQ SL SV EX mm_X11_within 0 [.int x, .int b] [] S n 0 0 K
  refine q_iload_n rfl rfl rfl ?_
  refine q_iflt rfl rfl (fun c1 => ?_) (fun c1 => ?_)
  · refine q_iconst rfl rfl ?_
    exact q_iret rfl rfl rfl (hK1 (Or.inl c1))
  · refine q_iload_n rfl rfl rfl ?_
    refine q_iload_n rfl rfl rfl ?_
    refine q_icge rfl rfl (fun c2 => ?_) (fun c2 => ?_)
    · refine q_iconst rfl rfl ?_
      exact q_iret rfl rfl rfl (hK1 (Or.inr c2))
    · refine q_iconst rfl rfl ?_
      refine q_goto rfl ?_
      exact q_iret rfl rfl rfl (hK2 ⟨i_nlt c1, i_nle c2⟩)
theorem x_wi (h : pm_H) (p0 b : Int32) : pm_Snd (j_SL L0) (j_SV xs) j_MT j_mem j_memN j_HO j_tbl j_nst j_cl j_SN j_HN (x_F z) D tc z sa mm_X11_within (0, pm_en (pm_nl mm_X11_within) [.int p0, .int b], [], h, 0, 0) (fun r h' => h' = h ∧ ((p0 < 0 ∨ b ≤ p0) ∧ r = some (.int 0) ∨ (0 ≤ p0 ∧ p0 < b) ∧ r = some (.int 1))) := by
  refine pm_sound (EX := fun _ _ _ => False) (j_G x_mv) (fun M c R h => h.elim) ?_
  obtain ⟨S, n, rfl⟩ := x_hp h
  have key := l_wi (SL := j_SL L0) (SV := j_SV xs) (EX := fun _ _ _ => False) (S := S) (n := n) (x := p0) (b := b) (K := fun r S' n' => S' = S ∧ n' = n ∧ ((p0 < 0 ∨ b ≤ p0) ∧ r = some (.int 0) ∨ (0 ≤ p0 ∧ p0 < b) ∧ r = some (.int 1))) (fun c => ⟨rfl, rfl, Or.inl ⟨c, rfl⟩⟩) (fun c => ⟨rfl, rfl, Or.inr ⟨c, rfl⟩⟩)
  unfold PM PQ at key
  refine pm_W_mono _ _ _ _ _ _ key ?_
  rintro r h' ⟨S', n', e, rfl, rfl, hr⟩
  exact ⟨e, hr⟩
theorem x_opv : ∀ k : Fin 13, (jv0.getD k.val 0 = 2) ↔ (8 ≤ k.val ∧ k.val ≤ 11) := by decide +kernel
theorem l_op {EX : pm_M → pm_C → (pm_C → Prop) → Prop} {S : Nat → pm_E} {n : Nat} {K : q_K} {x : Int32} (hK : ∀ v : Int32, (v = 2 ↔ (8 ≤ x ∧ x ≤ 11)) → K (some (.int v)) S n) : PM (j_SL L0) (j_SV xs) EX mm_X11_operandOf [.int x] S n K := by
  change PQ (j_SL L0) (j_SV xs) EX mm_X11_operandOf 0 [.int x] [] S n 0 0 K
  have e13 : (13 : Int32).toInt = 13 := rfl
  have e0 : (0 : Int32).toInt = 0 := rfl
  have e8 : (8 : Int32).toInt = 8 := rfl
  have e11 : (11 : Int32).toInt = 11 := rfl
  refine q_iload_n rfl rfl rfl ?_
  refine q_bipush rfl rfl ?_
  refine q_cS (K' := fun r S' n' => S' = S ∧ n' = n ∧ (((x < 0 ∨ 13 ≤ x) ∧ r = some (.int 0)) ∨ ((0 ≤ x ∧ x < 13) ∧ r = some (.int 1)))) rfl rfl (Or.inl rfl) rfl rfl trivial rfl rfl rfl rfl rfl (l_wi (fun c => ⟨rfl, rfl, Or.inl ⟨c, rfl⟩⟩) (fun c => ⟨rfl, rfl, Or.inr ⟨c, rfl⟩⟩)) ?_
  rintro r S1 n1 ⟨rfl, rfl, ⟨hc, rfl⟩ | ⟨hc, rfl⟩⟩
  · show PQ (j_SL L0) (j_SV xs) EX mm_X11_operandOf 6 [.int x] [.int 0] S1 n1 0 0 K
    refine q_ifeq rfl rfl (fun _ => ?_) (fun c => absurd rfl c)
    refine q_iconst rfl rfl ?_
    refine q_iret rfl rfl trivial (hK 0 ⟨fun e => absurd e (by decide), fun e => ?_⟩)
    simp only [Int32.lt_iff_toInt_lt, Int32.le_iff_toInt_le] at hc e
    omega
  · show PQ (j_SL L0) (j_SV xs) EX mm_X11_operandOf 6 [.int x] [.int 1] S1 n1 0 0 K
    refine q_ifeq rfl rfl (fun c => absurd c (by decide)) (fun _ => ?_)
    simp only [Int32.lt_iff_toInt_lt, Int32.le_iff_toInt_le] at hc
    obtain ⟨k, hk, rfl⟩ := nat_of (x := x) (b := 12) (by omega) (by omega)
    refine q_gets rfl rfl ?_
    refine q_iload_n rfl rfl rfl ?_
    refine q_ialdF rfl rfl (q_inN (m := 13) (show k < 13 by omega) (by decide)) ?_
    refine q_goto rfl ?_
    refine q_iret rfl rfl trivial (hK _ ?_)
    rw [nI_clamp (by omega)]
    have hv := x_opv ⟨k, by omega⟩
    show jv0.getD k 0 = 2 ↔ _
    rw [hv, Int32.le_iff_toInt_le, Int32.le_iff_toInt_le, nI_toInt (by omega)]
    show (8 ≤ k ∧ k ≤ 11) ↔ _
    omega
theorem x_op (h : pm_H) (x : Int32) : pm_Snd (j_SL L0) (j_SV xs) j_MT j_mem j_memN j_HO j_tbl j_nst j_cl j_SN j_HN (x_F z) D tc z sa mm_X11_operandOf (0, pm_en (pm_nl mm_X11_operandOf) [.int x], [], h, 0, 0) (fun r h' => h' = h ∧ ∃ v : Int32, (v = 2 ↔ (8 ≤ x ∧ x ≤ 11)) ∧ r = some (.int v)) := by
  refine pm_sound (EX := fun _ _ _ => False) (j_G x_mv) (fun M c R h => h.elim) ?_
  obtain ⟨S, n, rfl⟩ := x_hp h
  have key := l_op (L0 := L0) (xs := xs) (EX := fun _ _ _ => False) (S := S) (n := n) (x := x) (K := fun r S' n' => S' = S ∧ n' = n ∧ ∃ v : Int32, (v = 2 ↔ (8 ≤ x ∧ x ≤ 11)) ∧ r = some (.int v)) (fun v hv => ⟨rfl, rfl, v, hv, rfl⟩)
  unfold PM PQ at key
  refine pm_W_mono _ _ _ _ _ _ key ?_
  rintro r h' ⟨S', n', e, rfl, rfl, hr⟩
  exact ⟨e, hr⟩
def x_ns : List String := ["java/lang/RuntimeException", "java/lang/Exception"]
def x_rE : Room := { frames := 7, cells := 1, slots := 6, locals := 200 }
def x_rL : Room := { frames := 8, cells := 1, slots := 6, locals := 240 }
def x_M : pm_M := (pm_nm mm_X11_element, pm_cd mm_X11_element, 5, some .long, 9, x_rE, 107, 0, pm_hn mm_X11_element, fun _ => none)
def xf_M : pm_M := (pm_nm mm_X10_fail, pm_cd mm_X10_fail, 1, none, 8, x_rE, 22, 0, pm_hn mm_X10_fail, fun _ => none)
def x_XC (D : va_G) (tc : Nat → ClassId) (z : Nat) (sa : Nat → Nat) (h : pm_H) (En : String) : String → State → State → Prop := fun E st t => E = En ∧ pm_J j_cl D tc z sa (h ++ [.inr (99, [])]) t.heap ∧ va_F (pm_A z) st t
theorem x_lwA : ∀ w ∈ (vx_atS "TurnSchool" 294 "java/lang/IllegalArgumentException" x_ns).filter goodWord, w ∈ lw_tbl := by decide +kernel
theorem x_lwS : ∀ w ∈ (vx_atS "TurnSchool" 307 "java/lang/IllegalStateException" x_ns).filter goodWord, w ∈ lw_tbl := by decide +kernel
theorem x_lwF : ∀ w ∈ (vx_atS "TurnSchool$Statement" 26 "java/lang/IllegalStateException" x_ns).filter goodWord, w ∈ lw_tbl := by decide +kernel
theorem x_ngA : ∀ w ∈ (vx_atS "TurnSchool" 294 "java/lang/IllegalArgumentException" x_ns).filter (fun w => !goodWord w), w ∈ Cond.castable "java/lang/IllegalArgumentException" "java/lang/IllegalArgumentException" :: x_D := by decide +kernel
theorem x_ngS : ∀ w ∈ (vx_atS "TurnSchool" 307 "java/lang/IllegalStateException" x_ns).filter (fun w => !goodWord w), w ∈ Cond.castable "java/lang/IllegalStateException" "java/lang/IllegalStateException" :: x_D := by decide +kernel
theorem x_ngF : ∀ w ∈ (vx_atS "TurnSchool$Statement" 26 "java/lang/IllegalStateException" x_ns).filter (fun w => !goodWord w), w ∈ Cond.castable "java/lang/IllegalStateException" "java/lang/IllegalStateException" :: x_D := by decide +kernel
theorem x_goA : ∀ w ∈ Cond.classLink "TurnSchool" 290 "java/lang/IllegalArgumentException" :: Cond.initialized "java/lang/IllegalArgumentException" :: vx_atS "TurnSchool" 294 "java/lang/IllegalArgumentException" x_ns, vx_ot w = true := by decide +kernel
theorem x_goS : ∀ w ∈ Cond.classLink "TurnSchool" 303 "java/lang/IllegalStateException" :: Cond.initialized "java/lang/IllegalStateException" :: vx_atS "TurnSchool" 307 "java/lang/IllegalStateException" x_ns, vx_ot w = true := by decide +kernel
theorem x_goF : ∀ w ∈ Cond.classLink "TurnSchool$Statement" 22 "java/lang/IllegalStateException" :: Cond.initialized "java/lang/IllegalStateException" :: vx_atS "TurnSchool$Statement" 26 "java/lang/IllegalStateException" x_ns, vx_ot w = true := by decide +kernel
theorem x_caA {args : Array Value} {s : State} (hN : pm_N j_nst j_HN s) : (Cond.castable "java/lang/IllegalArgumentException" "java/lang/IllegalArgumentException").before args s = true := va_Nw.use rfl (hN.1 _ (j_memN_ok 1026 _ (by decide +kernel)))
theorem x_caS {args : Array Value} {s : State} (hN : pm_N j_nst j_HN s) : (Cond.castable "java/lang/IllegalStateException" "java/lang/IllegalStateException").before args s = true := va_Nw.use rfl (hN.1 _ (j_memN_ok 950 _ (by decide +kernel)))
theorem x_haA {args : Array Value} {s : State} (hts : ∀ w ∈ j_tbl, w.before args s = true) (hN : pm_N j_nst j_HN s) (hD : ∀ w ∈ x_D, va_Nw w s) : ∀ w ∈ vx_atS "TurnSchool" 294 "java/lang/IllegalArgumentException" x_ns, w.before args s = true :=
  vx_hat (fun w hw => hts w (List.mem_filter.mpr ⟨x_lwA w hw, (List.mem_filter.mp hw).2⟩)) x_ngA (vx_c (x_caA hN) (x_D_b hD))
theorem x_haS {args : Array Value} {s : State} (hts : ∀ w ∈ j_tbl, w.before args s = true) (hN : pm_N j_nst j_HN s) (hD : ∀ w ∈ x_D, va_Nw w s) : ∀ w ∈ vx_atS "TurnSchool" 307 "java/lang/IllegalStateException" x_ns, w.before args s = true :=
  vx_hat (fun w hw => hts w (List.mem_filter.mpr ⟨x_lwS w hw, (List.mem_filter.mp hw).2⟩)) x_ngS (vx_c (x_caS hN) (x_D_b hD))
theorem x_haF {args : Array Value} {s : State} (hts : ∀ w ∈ j_tbl, w.before args s = true) (hN : pm_N j_nst j_HN s) (hD : ∀ w ∈ x_D, va_Nw w s) : ∀ w ∈ vx_atS "TurnSchool$Statement" 26 "java/lang/IllegalStateException" x_ns, w.before args s = true :=
  vx_hat (fun w hw => hts w (List.mem_filter.mpr ⟨x_lwF w hw, (List.mem_filter.mp hw).2⟩)) x_ngF (vx_c (x_caS hN) (x_D_b hD))
theorem x_push {h : pm_H} {s t : State} {H1 : Heap} {locs1 : List Loc} {En : String} (hJ : pm_J j_cl D tc z sa h H1) (hS : va_S (pm_A z) s.heap H1 locs1) (hsz : t.heap.size = H1.size + 1) (hkp : ∀ q : Nat, q < H1.size → t.heap[q]? = H1[q]?) : x_XC D tc z sa h En En s t := by
  refine ⟨rfl, pm_J_push hJ hsz hkp ?_, by rw [hsz]; exact Nat.le_succ_of_le hS.1, fun q h1 h2 => by rw [hkp q (Nat.lt_of_lt_of_le h1 hS.1)]; exact hS.2.1 q h1 h2⟩
  intro r hr
  have e : j_cl[99]? = none := rfl
  rw [e] at hr
  cases hr
theorem xf_d0 : decode (pm_cd xf_M) 0 = .ok (.aload_n 0, 1) := by decide +kernel
theorem xf_d1 : decode (pm_cd xf_M) 1 = .ok (.getfield 9, 3) := by decide +kernel
theorem xf_d4 : decode (pm_cd xf_M) 4 = .ok (.invokestatic 18, 3) := by decide +kernel
theorem xf_d7 : decode (pm_cd xf_M) 7 = .ok (.iconst 2, 1) := by decide +kernel
theorem xf_d8 : decode (pm_cd xf_M) 8 = .ok (.if_icmp .ne 13, 3) := by decide +kernel
theorem xf_d11 : decode (pm_cd xf_M) 11 = .ok (.new 22, 3) := by decide +kernel
theorem xf_d14 : decode (pm_cd xf_M) 14 = .ok (.dup, 1) := by decide +kernel
theorem xf_d15 : decode (pm_cd xf_M) 15 = .ok (.ldc 24, 2) := by decide +kernel
theorem xf_d17 : decode (pm_cd xf_M) 17 = .ok (.invokespecial 26, 3) := by decide +kernel
theorem xf_d20 : decode (pm_cd xf_M) 20 = .ok (.athrow, 1) := by decide +kernel
theorem xf_d21 : decode (pm_cd xf_M) 21 = .ok (.return_, 1) := by decide +kernel
theorem x_d0 : decode (pm_cd x_M) 0 = .ok (.iload_n 1, 1) := by decide +kernel
theorem x_d1 : decode (pm_cd x_M) 1 = .ok (.bipush 8, 2) := by decide +kernel
theorem x_d3 : decode (pm_cd x_M) 3 = .ok (.invokestatic 110, 3) := by decide +kernel
theorem x_d6 : decode (pm_cd x_M) 6 = .ok (.ifCond .ne 14, 3) := by decide +kernel
theorem x_d9 : decode (pm_cd x_M) 9 = .ok (.new 290, 3) := by decide +kernel
theorem x_d12 : decode (pm_cd x_M) 12 = .ok (.dup, 1) := by decide +kernel
theorem x_d13 : decode (pm_cd x_M) 13 = .ok (.ldc_w 292, 3) := by decide +kernel
theorem x_d16 : decode (pm_cd x_M) 16 = .ok (.invokespecial 294, 3) := by decide +kernel
theorem x_d19 : decode (pm_cd x_M) 19 = .ok (.athrow, 1) := by decide +kernel
theorem x_d20 : decode (pm_cd x_M) 20 = .ok (.aload_n 0, 1) := by decide +kernel
theorem x_d21 : decode (pm_cd x_M) 21 = .ok (.getfield 60, 3) := by decide +kernel
theorem x_d24 : decode (pm_cd x_M) 24 = .ok (.iload_n 1, 1) := by decide +kernel
theorem x_d25 : decode (pm_cd x_M) 25 = .ok (.aaload, 1) := by decide +kernel
theorem x_d26 : decode (pm_cd x_M) 26 = .ok (.astore_n 3, 1) := by decide +kernel
theorem x_d27 : decode (pm_cd x_M) 27 = .ok (.aload_n 3, 1) := by decide +kernel
theorem x_d28 : decode (pm_cd x_M) 28 = .ok (.instanceof 283, 3) := by decide +kernel
theorem x_d31 : decode (pm_cd x_M) 31 = .ok (.ifCond .eq 30, 3) := by decide +kernel
theorem x_d34 : decode (pm_cd x_M) 34 = .ok (.aload_n 3, 1) := by decide +kernel
theorem x_d35 : decode (pm_cd x_M) 35 = .ok (.checkcast 283, 3) := by decide +kernel
theorem x_d38 : decode (pm_cd x_M) 38 = .ok (.astore 4, 2) := by decide +kernel
theorem x_d40 : decode (pm_cd x_M) 40 = .ok (.iload_n 2, 1) := by decide +kernel
theorem x_d41 : decode (pm_cd x_M) 41 = .ok (.aload 4, 2) := by decide +kernel
theorem x_d43 : decode (pm_cd x_M) 43 = .ok (.getfield 297, 3) := by decide +kernel
theorem x_d46 : decode (pm_cd x_M) 46 = .ok (.arraylength, 1) := by decide +kernel
theorem x_d47 : decode (pm_cd x_M) 47 = .ok (.invokestatic 110, 3) := by decide +kernel
theorem x_d50 : decode (pm_cd x_M) 50 = .ok (.ifCond .eq 11, 3) := by decide +kernel
theorem x_d53 : decode (pm_cd x_M) 53 = .ok (.aload 4, 2) := by decide +kernel
theorem x_d55 : decode (pm_cd x_M) 55 = .ok (.getfield 297, 3) := by decide +kernel
theorem x_d58 : decode (pm_cd x_M) 58 = .ok (.iload_n 2, 1) := by decide +kernel
theorem x_d59 : decode (pm_cd x_M) 59 = .ok (.laload, 1) := by decide +kernel
theorem x_d60 : decode (pm_cd x_M) 60 = .ok (.lreturn, 1) := by decide +kernel
theorem x_d61 : decode (pm_cd x_M) 61 = .ok (.aload_n 3, 1) := by decide +kernel
theorem x_d62 : decode (pm_cd x_M) 62 = .ok (.instanceof 287, 3) := by decide +kernel
theorem x_d65 : decode (pm_cd x_M) 65 = .ok (.ifCond .eq 31, 3) := by decide +kernel
theorem x_d68 : decode (pm_cd x_M) 68 = .ok (.aload_n 3, 1) := by decide +kernel
theorem x_d69 : decode (pm_cd x_M) 69 = .ok (.checkcast 287, 3) := by decide +kernel
theorem x_d72 : decode (pm_cd x_M) 72 = .ok (.astore 4, 2) := by decide +kernel
theorem x_d74 : decode (pm_cd x_M) 74 = .ok (.iload_n 2, 1) := by decide +kernel
theorem x_d75 : decode (pm_cd x_M) 75 = .ok (.aload 4, 2) := by decide +kernel
theorem x_d77 : decode (pm_cd x_M) 77 = .ok (.getfield 300, 3) := by decide +kernel
theorem x_d80 : decode (pm_cd x_M) 80 = .ok (.arraylength, 1) := by decide +kernel
theorem x_d81 : decode (pm_cd x_M) 81 = .ok (.invokestatic 110, 3) := by decide +kernel
theorem x_d84 : decode (pm_cd x_M) 84 = .ok (.ifCond .eq 12, 3) := by decide +kernel
theorem x_d87 : decode (pm_cd x_M) 87 = .ok (.aload 4, 2) := by decide +kernel
theorem x_d89 : decode (pm_cd x_M) 89 = .ok (.getfield 300, 3) := by decide +kernel
theorem x_d92 : decode (pm_cd x_M) 92 = .ok (.iload_n 2, 1) := by decide +kernel
theorem x_d93 : decode (pm_cd x_M) 93 = .ok (.saload, 1) := by decide +kernel
theorem x_d94 : decode (pm_cd x_M) 94 = .ok (.i2l, 1) := by decide +kernel
theorem x_d95 : decode (pm_cd x_M) 95 = .ok (.lreturn, 1) := by decide +kernel
theorem x_d96 : decode (pm_cd x_M) 96 = .ok (.new 303, 3) := by decide +kernel
theorem x_d99 : decode (pm_cd x_M) 99 = .ok (.dup, 1) := by decide +kernel
theorem x_d100 : decode (pm_cd x_M) 100 = .ok (.ldc_w 305, 3) := by decide +kernel
theorem x_d103 : decode (pm_cd x_M) 103 = .ok (.invokespecial 307, 3) := by decide +kernel
theorem x_d106 : decode (pm_cd x_M) 106 = .ok (.athrow, 1) := by decide +kernel
theorem xk_d0 : decode prog_1_method_40_code 0 = .ok (.aload_n 0, 1) := by decide +kernel
theorem xk_d1 : decode prog_1_method_40_code 1 = .ok (.invokevirtual 326, 3) := by decide +kernel
theorem xk_d4 : decode prog_1_method_40_code 4 = .ok (.goto 9, 3) := by decide +kernel
theorem xk_d7 : decode prog_1_method_40_code 7 = .ok (.astore_n 1, 1) := by decide +kernel
theorem xk_d8 : decode prog_1_method_40_code 8 = .ok (.aload_n 0, 1) := by decide +kernel
theorem xk_d9 : decode prog_1_method_40_code 9 = .ok (.getfield 329, 3) := by decide +kernel
theorem xk_d12 : decode prog_1_method_40_code 12 = .ok (.ireturn, 1) := by decide +kernel
theorem xk_d13 : decode prog_1_method_40_code 13 = .ok (.bipush (-15), 2) := by decide +kernel
theorem xk_d15 : decode prog_1_method_40_code 15 = .ok (.ireturn, 1) := by decide +kernel
theorem x_l0 : decode method_3_code 0 = .ok (.aload_n 3, 1) := by decide +kernel
theorem x_l1 : decode method_3_code 1 = .ok (.iconst 0, 1) := by decide +kernel
theorem x_l2 : decode method_3_code 2 = .ok (.aload_n 0, 1) := by decide +kernel
theorem x_l3 : decode method_3_code 3 = .ok (.iload_n 1, 1) := by decide +kernel
theorem x_l4 : decode method_3_code 4 = .ok (.iload_n 2, 1) := by decide +kernel
theorem x_l5 : decode method_3_code 5 = .ok (.invokevirtual 7, 3) := by decide +kernel
theorem x_l8 : decode method_3_code 8 = .ok (.lastore, 1) := by decide +kernel
theorem x_l9 : decode method_3_code 9 = .ok (.goto 11, 3) := by decide +kernel
theorem x_l12 : decode method_3_code 12 = .ok (.astore 4, 2) := by decide +kernel
theorem x_l14 : decode method_3_code 14 = .ok (.iconst 1, 1) := by decide +kernel
theorem x_l15 : decode method_3_code 15 = .ok (.ireturn, 1) := by decide +kernel
theorem x_l16 : decode method_3_code 16 = .ok (.astore 4, 2) := by decide +kernel
theorem x_l18 : decode method_3_code 18 = .ok (.iconst 2, 1) := by decide +kernel
theorem x_l19 : decode method_3_code 19 = .ok (.ireturn, 1) := by decide +kernel
theorem x_l20 : decode method_3_code 20 = .ok (.iconst 0, 1) := by decide +kernel
theorem x_l21 : decode method_3_code 21 = .ok (.ireturn, 1) := by decide +kernel
set_option maxHeartbeats 4000000 in
set_option maxRecDepth 20000 in
/-- the failure of a statement: thrown, or nothing -/
theorem x_fl {h : pm_H} {y : Nat} {a k : Int32} (hy : h[y]? = some (.inr (8, [.int a, .int k]))) :
    vx_Met l (pm_nm xf_M) (Cond.code (pm_nm xf_M) (pm_cd xf_M) (pm_nl xf_M) (pm_rt xf_M) :: j_tbl) x_rE (va_Pc ([Value.ref y].map (pm_tr z sa)) (pm_U (j_SL L0) (j_SV xs) j_nst j_cl j_SN j_HN (x_F z) D tc z sa l h)) (fun ar st oc t => ¬ (8 ≤ k ∧ k ≤ 11) ∧ pm_Qc j_cl D tc z sa (fun r h' => r = none ∧ h' = h) ar st oc t) (fun E st t => (8 ≤ k ∧ k ≤ 11) ∧ x_XC D tc z sa h "java/lang/IllegalStateException" E st t) 1 6 (pm_A z) := by
  refine vx_ofW (cc := pm_cd xf_M) (maxL := pm_nl xf_M) (ret := pm_rt xf_M) (by decide +kernel) rfl ?_
  intro p e s m args below meth c s₁ B hml hexc hv
  obtain ⟨rfl, hJ, hK, hSt, hN, hz, hxp⟩ := hv
  obtain ⟨hlt, -, -, ⟨a8, hs8⟩, hZU, hZN, -, hD⟩ := id hxp
  have hts0 := atoms_spec (ws := Cond.code (pm_nm xf_M) (pm_cd xf_M) (pm_nl xf_M) (pm_rt xf_M) :: j_tbl) B.pre
  have hts : ∀ w ∈ j_tbl, w.before ([Value.ref y].map (pm_tr z sa)).toArray s = true := fun w hw => hts0 w (List.mem_cons_of_mem _ hw)
  have hown : s.vm.findClass "TurnSchool$Statement" = some m.cls := findClass_of_methodNamed B.named
  have hlocks := B.notSynchronized
  have hx := B.exec
  have hb : c.code = pm_cd xf_M := B.bytes
  have hC : pm_Ctx (j_SL L0) (j_SV xs) j_tbl j_nst j_cl j_SN j_HN (x_F z) D tc z sa xf_M p l s m ([Value.ref y].map (pm_tr z sa)).toArray meth c := ⟨hx, hb, B.returns, hml, hown, hts, hlocks, fun h => absurd h (by decide), hK, hSt, hN, hz, hxp⟩
  have hL0 := pm_Lv_en z sa [Value.ref y] (n := 1) (Nat.le_of_ble_eq_true rfl)
  have hcl : j_cl[8]? = some ("TurnSchool$Statement", jT8, 2) := rfl
  have hGG := j_G (XP := x_F z) (z := z) x_mv
  have hcls := hGG.2.2.2.2.2.1
  have key : ∀ ls : Array Slot, pm_Lv z sa ls 1 (pm_en 1 [Value.ref y]) → W p l e x_rE s m ([Value.ref y].map (pm_tr z sa)).toArray below meth c s.heap [] 0 0 (vx_MQ below (fun ar st oc t => ¬ (8 ≤ k ∧ k ≤ 11) ∧ pm_Qc j_cl D tc z sa (fun r h' => r = none ∧ h' = h) ar st oc t) (fun E st t => (8 ≤ k ∧ k ≤ 11) ∧ x_XC D tc z sa h "java/lang/IllegalStateException" E st t) ([Value.ref y].map (pm_tr z sa)).toArray s 1 6 (pm_A z)) (F0 m 0 ls []) := by
    intro ls hL
    have hsize : ls.size = c.maxLocals := by rw [pm_Lv_size hL, hml]; rfl
    refine lv_aload_n hx hb xf_d0 rfl (pm_Lv_at hL (i := 0) (v := .ref y) rfl rfl) ?_
    refine va_get hx hb hts (hcls 8 _ hcl).1 hown hK (pm_P1o hcl (hJ.2 y _ hy)) 0 rfl hcl 1 (by decide) (hts _ (j_mem_ok 874 _ (by decide +kernel))) (fun _ h9 => h9) (pm_V_tr z sa [.int a, .int k] (k := 1) rfl) xf_d1 ?_
    refine pm_snd_call (M := xf_M) (st := [.int k]) (h := h) (L := pm_en 1 [Value.ref y]) (pc := 4) (c0 := 0) (s0 := 0) (idx := 18) (a := 137) (b := 4) (n := 1) (inv := 1) (o := .inr (.inr (.inr ([], 137, [.int k], [])))) hGG hC hL hJ va_S.rf (Nat.zero_le _) (Nat.zero_le _) (by decide +kernel) (fun q => absurd q (by decide)) (fun _ => xf_d4) (fun q => absurd q (by decide)) rfl ?_
    intro q hq
    cases hq
    refine ⟨trivial, mm_X11_operandOf, _, rfl, x_op h k, ?_⟩
    rintro r h' H1 locs1 ⟨eh, v, hv2, rfl⟩ hJ1 hS1 - -
    rw [eh] at hJ1
    show W p l e x_rE s m _ below meth c H1 locs1 0 0 _ (F0 m 7 ls [.int v])
    refine lv_iconst (v := 2) hx hb xf_d7 rfl ?_
    refine lv_icmp_ne (tgt := 21) hx hb xf_d8 (by decide) (fun hne => ?_) (fun heq => ?_)
    · refine vx_ret (W.widen (Nat.zero_le _) (Nat.zero_le _) (W.vret (Qc := fun ar st oc t => ¬ (8 ≤ k ∧ k ≤ 11) ∧ pm_Qc j_cl D tc z sa (fun r h' => r = none ∧ h' = h) ar st oc t) hx hb B.returns ?_ hS1.2.2 xf_d21 hlocks))
      exact fun t ht hW => ⟨fun q => hne (hv2.mpr q), ⟨none, h, rfl, ⟨rfl, rfl⟩, by rw [ht]; exact hJ1⟩, hS1.F ht⟩
    · exact vx_throwS (pc := 11) (own := "TurnSchool$Statement") (cls := "java/lang/IllegalStateException") (text := "the lock isn't the hand's") (names := x_ns) (ik := 22) (is := 24) (ic := 26) (sa := a8) (A := pm_A z) hx hb hlt hown (by decide +kernel) (by decide +kernel) (hts _ (j_mem_ok 948 _ (by decide +kernel))) (hts _ (j_mem_ok 104 _ (by decide +kernel))) hs8 (x_haF hts hN hD) x_goF hZU hZN hS1 hsize xf_d11 xf_d14 xf_d15 xf_d17 xf_d20 (fun x hx => (hexc x hx).elim) (by decide) (by decide) (by decide) (by decide) hlocks (fun t _ hsz hkp => ⟨hv2.mp heq, x_push hJ1 hS1 hsz hkp⟩) (fun q hq => hS1.2.2 q hq) (by decide) (by decide)
  rw [lg_entry_eq]
  exact key _ hL0
end XO
