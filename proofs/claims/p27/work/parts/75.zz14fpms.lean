/-! THE PURE MACHINE IS THE REAL ONE: instruction by instruction -/
theorem pm_ldi_some {pc len : Nat} {L st : List Value} {h : pm_H} {c s k : Nat} {o : pm_O} (e : pm_ldi pc len L st h c s k = some o) : ∃ x, L[k]? = some (.int x) ∧ o = .inl ([], (pc + len, L, .int x :: st, h, c, s)) := by
  unfold pm_ldi at e
  split at e
  · cases e; exact ⟨_, by assumption, rfl⟩
  · cases e
theorem pm_ldl_some {pc len : Nat} {L st : List Value} {h : pm_H} {c s k : Nat} {o : pm_O} (e : pm_ldl pc len L st h c s k = some o) : ∃ x, L[k]? = some (.long x) ∧ o = .inl ([], (pc + len, L, .long x :: st, h, c, s)) := by
  unfold pm_ldl at e
  split at e
  · cases e; exact ⟨_, by assumption, rfl⟩
  · cases e
theorem pm_lda_some {pc len : Nat} {L st : List Value} {h : pm_H} {c s k : Nat} {o : pm_O} (e : pm_lda pc len L st h c s k = some o) : ∃ w, L[k]? = some w ∧ o = .inl ([], (pc + len, L, w :: st, h, c, s)) ∧ ((∃ x, w = .ref x) ∨ (∃ x, w = .float x) ∨ w = .null) := by
  unfold pm_lda at e
  split at e
  · cases e; exact ⟨_, by assumption, rfl, Or.inl ⟨_, rfl⟩⟩
  · cases e; exact ⟨_, by assumption, rfl, Or.inr (Or.inl ⟨_, rfl⟩)⟩
  · cases e; exact ⟨_, by assumption, rfl, Or.inr (Or.inr rfl)⟩
  · cases e
theorem pm_sto_some {M : pm_M} {pc len : Nat} {L st : List Value} {h : pm_H} {c s k : Nat} {o : pm_O} (e : pm_sto M pc len L st h c s k = some o) : ∃ w r, st = w :: r ∧ k < pm_nl M ∧ o = .inl ([], (pc + len, pm_s1 L k w, r, h, c, s)) := by
  unfold pm_sto at e
  split at e
  · split at e
    · rename_i hb
      cases e; exact ⟨_, _, rfl, Nat.le_of_ble_eq_true hb, rfl⟩
    · cases e
  · cases e
theorem pm_sti_some {M : pm_M} {pc len : Nat} {L st : List Value} {h : pm_H} {c s k : Nat} {o : pm_O} (e : pm_sti M pc len L st h c s k = some o) : ∃ x r, st = .int x :: r ∧ k < pm_nl M ∧ o = .inl ([], (pc + len, pm_s1 L k (.int x), r, h, c, s)) := by
  unfold pm_sti at e
  split at e
  · obtain ⟨w, r, h1, h2, h3⟩ := pm_sto_some e
    cases h1
    exact ⟨_, _, rfl, h2, h3⟩
  · cases e
theorem pm_sta_some {M : pm_M} {pc len : Nat} {L st : List Value} {h : pm_H} {c s k : Nat} {o : pm_O} (e : pm_sta M pc len L st h c s k = some o) : ∃ w r, st = w :: r ∧ k < pm_nl M ∧ o = .inl ([], (pc + len, pm_s1 L k w, r, h, c, s)) ∧ ((∃ x, w = .ref x) ∨ (∃ x, w = .float x) ∨ w = .null) := by
  unfold pm_sta at e
  split at e
  · obtain ⟨w, r, h1, h2, h3⟩ := pm_sto_some e
    cases h1
    exact ⟨_, _, rfl, h2, h3, Or.inl ⟨_, rfl⟩⟩
  · obtain ⟨w, r, h1, h2, h3⟩ := pm_sto_some e
    cases h1
    exact ⟨_, _, rfl, h2, h3, Or.inr (Or.inr rfl)⟩
  · obtain ⟨w, r, h1, h2, h3⟩ := pm_sto_some e
    cases h1
    exact ⟨_, _, rfl, h2, h3, Or.inr (Or.inl ⟨_, rfl⟩)⟩
  · cases e
theorem pm_stl_some {M : pm_M} {pc len : Nat} {L st : List Value} {h : pm_H} {c s k : Nat} {o : pm_O} (e : pm_stl M pc len L st h c s k = some o) : ∃ x r, st = .long x :: r ∧ k + 1 < pm_nl M ∧ o = .inl ([], (pc + len, pm_s2 L k (.long x), r, h, c, s)) := by
  unfold pm_stl at e
  split at e
  · split at e
    · rename_i hb
      cases e; exact ⟨_, _, rfl, Nat.le_of_ble_eq_true hb, rfl⟩
    · cases e
  · cases e
theorem pm_swpc_out {pc : Nat} {dflt lo hi : Int} {offs : Array Int} {x : Int32} (h : x.toInt < lo ∨ hi < x.toInt) (h0 : 0 ≤ (pc : Int) + dflt) : (pc : Int) + dflt = (pm_swpc pc dflt lo hi offs x : Int) := by
  unfold pm_swpc
  rw [if_pos h, Int.toNat_of_nonneg h0]
theorem pm_swpc_in {pc : Nat} {dflt lo hi : Int} {offs : Array Int} {x : Int32} (h : ¬ (x.toInt < lo ∨ hi < x.toInt)) {off : Int} (ho : offs[(x.toInt - lo).toNat]? = some off) (h0 : 0 ≤ (pc : Int) + off) : (pc : Int) + off = (pm_swpc pc dflt lo hi offs x : Int) := by
  unfold pm_swpc
  rw [if_neg h, ho, Option.getD_some, Int.toNat_of_nonneg h0]
theorem pm_fitR_end {M : pm_M} {pc : Nat} {w : Value} {ps : List Bool} (hf : pm_fitR (pm_rt M) w = some ps) (hp : pm_all ps) (hi : ∀ x, w = .int x → decode (pm_cd M) pc = .ok (.ireturn, 1)) (hl : ∀ x, w = .long x → decode (pm_cd M) pc = .ok (.lreturn, 1)) (ha : (w = .null ∨ ∃ x, w = .ref x) → decode (pm_cd M) pc = .ok (.areturn, 1)) : pm_end M pc (some w) := by
  cases hr : pm_rt M with
  | none => rw [hr] at hf; cases hf
  | some ty =>
    rw [hr] at hf
    unfold pm_fitR at hf
    split at hf
    · rename_i h2
      cases h2
      exact ⟨hi _ rfl, _, hr, rfl⟩
    · rename_i x h2
      cases h2; cases hf
      refine ⟨hi _ rfl, _, hr, ?_⟩
      rcases pm_b01 hp with rfl | rfl <;> rfl
    · rename_i h2
      cases h2; cases hf
      exact ⟨hi _ rfl, _, hr, of_decide_eq_true hp⟩
    · rename_i h2
      cases h2
      exact ⟨hl _ rfl, hr⟩
    · rename_i h2
      cases h2
      exact ⟨ha (Or.inr ⟨_, rfl⟩), _, hr⟩
    · rename_i h2
      cases h2
      exact ⟨ha (Or.inl rfl), _, hr⟩
    · cases hf
section PMS
variable {ft : Nat → Nat → FieldType} {df : Nat → List Value} {SL : Nat → Nat} {SV : Nat → Nat → Int32} {MT : Nat → Option pm_M} {EX : pm_M → pm_C → (pm_C → Prop) → Prop}
variable {mem memN : Nat → Cond → Bool} {HO : String} {tbl nst : List Cond} {cl : List vw_C} {SN : List (String × String)} {HN : String} {XP : Launch → State → Heap → Prop}
variable {D : va_G} {tc : Nat → ClassId} {z : Nat} {sa : Nat → Nat}
set_option maxHeartbeats 4000000 in
theorem pm_snd1 (hG : pm_G ft df MT mem memN HO tbl nst cl SN HN XP z) {M : pm_M} {K : pm_K} {pc : Nat} {L st : List Value} {h : pm_H} {c0 s0 : Nat} {i : Instr} {len a b : Nat} {v : Value} {o : pm_O}
    {p : Program} {l : Launch} {e : Env} {s : State} {m : MethodId} {args : Array Value} {below : List Frame} {meth : Method} {cd : Code} {H : Heap} {locs : List Loc} {ls : Array Slot} {Q : State → Prop}
    (hd : decode (pm_cd M) pc = .ok (i, len)) (hres : pm_res MT mem memN HO cl SN HN M pc (i, len, a, b, v) = true) (ho : pm_ex ft df SL SV MT M i len a b v pc L st h c0 s0 = some o)
    (hN : ∀ ps c', o = .inl (ps, c') → pm_all ps ∧ pm_Snd SL SV MT mem memN HO tbl nst cl SN HN XP D tc z sa M c' K)
    (hB : ∀ (q : Bool) c1 c2, o = .inr (.inl (q, c1, c2)) → (q = true → pm_Snd SL SV MT mem memN HO tbl nst cl SN HN XP D tc z sa M c1 K) ∧ (q = false → pm_Snd SL SV MT mem memN HO tbl nst cl SN HN XP D tc z sa M c2 K))
    (hR : ∀ ps w, o = .inr (.inr (.inl (ps, w))) → pm_all ps ∧ K w h)
    (hCl : ∀ q, o = .inr (.inr (.inr q)) → pm_all q.1 ∧ ∃ (Y : pm_M) (K' : pm_K), MT q.2.1 = some Y ∧ pm_Snd SL SV MT mem memN HO tbl nst cl SN HN XP D tc z sa Y (0, pm_en (pm_nl Y) q.2.2.1, [], h, 0, 0) K' ∧
      ∀ r h', K' r h' → pm_Snd SL SV MT mem memN HO tbl nst cl SN HN XP D tc z sa M (pc + 3, L, r.toList ++ q.2.2.2, h', c0 + (pm_rm Y).cells, s0 + (pm_rm Y).slots) K)
    (hC : pm_Ctx SL SV tbl nst cl SN HN XP D tc z sa M p l s m args meth cd) (hwf : pm_wt MT mem memN HO cl SN HN M) (hL : pm_Lv z sa ls (pm_nl M) L) (hJ : pm_J cl D tc z sa h H) (hS : va_S (pm_A z) s.heap H locs) (hc0 : c0 ≤ (pm_rm M).cells) (hs0 : s0 ≤ (pm_rm M).slots)
    (hend : ∀ (v : Option Value) (h' : pm_H) (H' : Heap) (locs' : List Loc) (pc' : Nat) (ls' : Array Slot), K v h' → pm_J cl D tc z sa h' H' → va_S (pm_A z) s.heap H' locs' → pm_end M pc' v → W p l e (pm_rm M) s m args below meth cd H' locs' (pm_rm M).cells (pm_rm M).slots Q (F0 m pc' ls' (v.toList.map (pm_tr z sa)))) :
    W p l e (pm_rm M) s m args below meth cd H locs c0 s0 Q (F0 m pc ls (st.map (pm_tr z sa))) := by
  have go : ∀ {pc' : Nat} {st' : List Value}, pm_Snd SL SV MT mem memN HO tbl nst cl SN HN XP D tc z sa M (pc', L, st', h, c0, s0) K → W p l e (pm_rm M) s m args below meth cd H locs c0 s0 Q (F0 m pc' ls (st'.map (pm_tr z sa))) := fun hh => hh p l e s m args below meth cd H locs ls Q hC hwf hL hJ hS hc0 hs0 hend
  have goL : ∀ {pc' : Nat} {L' st' : List Value} {ls' : Array Slot}, pm_Snd SL SV MT mem memN HO tbl nst cl SN HN XP D tc z sa M (pc', L', st', h, c0, s0) K → pm_Lv z sa ls' (pm_nl M) L' → W p l e (pm_rm M) s m args below meth cd H locs c0 s0 Q (F0 m pc' ls' (st'.map (pm_tr z sa))) := fun hh hL' => hh p l e s m args below meth cd H locs _ Q hC hwf hL' hJ hS hc0 hs0 hend
  have goH : ∀ {pc' : Nat} {st' : List Value} {h' : pm_H} {H' : Heap} {locs' : List Loc}, pm_Snd SL SV MT mem memN HO tbl nst cl SN HN XP D tc z sa M (pc', L, st', h', c0, s0) K → pm_J cl D tc z sa h' H' → va_S (pm_A z) s.heap H' locs' → W p l e (pm_rm M) s m args below meth cd H' locs' c0 s0 Q (F0 m pc' ls (st'.map (pm_tr z sa))) := fun hh hJ' hS' => hh p l e s m args below meth cd _ _ ls Q hC hwf hL hJ' hS' hc0 hs0 hend
  have goA : ∀ {pc' : Nat} {st' : List Value} {h' : pm_H} {H' : Heap} {c' s' : Nat}, pm_Snd SL SV MT mem memN HO tbl nst cl SN HN XP D tc z sa M (pc', L, st', h', c', s') K → pm_J cl D tc z sa h' H' → va_S (pm_A z) s.heap H' locs → c' ≤ (pm_rm M).cells → s' ≤ (pm_rm M).slots → W p l e (pm_rm M) s m args below meth cd H' locs c' s' Q (F0 m pc' ls (st'.map (pm_tr z sa))) := fun hh hJ' hS' h1 h2 => hh p l e s m args below meth cd _ _ ls Q hC hwf hL hJ' hS' h1 h2 hend
  obtain ⟨hx, hb, hr, hml, hown, hts, hlocks, hname, hK, hSt, hNs, hz, hxp⟩ := id hC
  obtain ⟨hXPg, hmem, hmemN, hgd, hnN, hcls, hcls2, harr, hMT, hoi, hoc, hheld⟩ := id hG
  cases i
  case aconst_null =>
    cases ho
    have hl : len = 1 := Nat.eq_of_beq_eq_true hres
    subst hl
    exact lv_null hx hb hd (go (hN _ _ rfl).2)
  case iconst n =>
    cases ho
    have hres : (Nat.beq len 1 && decide (v = .int (Int32.ofInt n))) = true := hres
    rw [Bool.and_eq_true] at hres
    obtain ⟨h1, h2⟩ := hres
    have hl := Nat.eq_of_beq_eq_true h1
    have hv := of_decide_eq_true h2
    subst hl
    subst hv
    exact lv_iconst hx hb hd rfl (go (hN _ _ rfl).2)
  case bipush n =>
    cases ho
    have hres : (Nat.beq len 2 && decide (v = .int (Int8.ofInt n).toInt32)) = true := hres
    rw [Bool.and_eq_true] at hres
    obtain ⟨h1, h2⟩ := hres
    have hl := Nat.eq_of_beq_eq_true h1
    have hv := of_decide_eq_true h2
    subst hl
    subst hv
    exact lv_bipush hx hb hd rfl (go (hN _ _ rfl).2)
  case sipush n =>
    cases ho
    have hres : (Nat.beq len 3 && decide (v = .int (Int16.ofInt n).toInt32)) = true := hres
    rw [Bool.and_eq_true] at hres
    obtain ⟨h1, h2⟩ := hres
    have hl := Nat.eq_of_beq_eq_true h1
    have hv := of_decide_eq_true h2
    subst hl
    subst hv
    exact lv_sipush hx hb hd rfl (go (hN _ _ rfl).2)
  case lconst n =>
    cases ho
    have hres : (Nat.beq len 1 && decide (v = .long (Int64.ofNat (n : Nat)))) = true := hres
    rw [Bool.and_eq_true] at hres
    obtain ⟨h1, h2⟩ := hres
    have hl := Nat.eq_of_beq_eq_true h1
    have hv := of_decide_eq_true h2
    subst hl
    subst hv
    exact lv_lconst hx hb hd rfl (go (hN _ _ rfl).2)
  case ldc n =>
    cases ho
    cases v
    case int x =>
      have hres : (Nat.beq len 2 && mem (pm_hn M n) (Cond.constant (pm_nm M).cls n x)) = true := hres
      rw [Bool.and_eq_true] at hres
      obtain ⟨h1, h2⟩ := hres
      have hl := Nat.eq_of_beq_eq_true h1
      have hv := hmem _ _ h2
      subst hl
      exact lv_ldc hx hb hown (hts _ hv) hd (go (hN _ _ rfl).2)
    all_goals (have hres : (Nat.beq len 2 && false) = true := hres; rw [Bool.and_false] at hres; cases hres)
  case ldc_w n =>
    cases ho
    cases v
    case int x =>
      have hres : (Nat.beq len 3 && mem (pm_hn M n) (Cond.constant (pm_nm M).cls n x)) = true := hres
      rw [Bool.and_eq_true] at hres
      obtain ⟨h1, h2⟩ := hres
      have hl := Nat.eq_of_beq_eq_true h1
      have hv := hmem _ _ h2
      subst hl
      exact lv_ldcw hx hb hown (hts _ hv) hd (go (hN _ _ rfl).2)
    all_goals (have hres : (Nat.beq len 3 && false) = true := hres; rw [Bool.and_false] at hres; cases hres)
  case ldc2_w n =>
    cases ho
    cases v
    case long x =>
      have hres : (Nat.beq len 3 && mem (pm_hn M n) (Cond.constantLong (pm_nm M).cls n x)) = true := hres
      rw [Bool.and_eq_true] at hres
      obtain ⟨h1, h2⟩ := hres
      have hl := Nat.eq_of_beq_eq_true h1
      have hv := hmem _ _ h2
      subst hl
      exact lv_ldc2 hx hb hown (hts _ hv) hd (go (hN _ _ rfl).2)
    all_goals (have hres : (Nat.beq len 3 && false) = true := hres; rw [Bool.and_false] at hres; cases hres)
  case iload_n k =>
    obtain ⟨x, h1, rfl⟩ := pm_ldi_some ho
    have hl : len = 1 := Nat.eq_of_beq_eq_true hres
    subst hl
    exact lv_iload_n hx hb hd rfl (pm_Lv_at hL h1 rfl) (go (hN _ _ rfl).2)
  case iload k =>
    obtain ⟨x, h1, rfl⟩ := pm_ldi_some ho
    have hl : len = 2 := Nat.eq_of_beq_eq_true hres
    subst hl
    exact lv_iload hx hb hd (pm_Lv_at hL h1 rfl) (go (hN _ _ rfl).2)
  case lload_n k =>
    obtain ⟨x, h1, rfl⟩ := pm_ldl_some ho
    have hl : len = 1 := Nat.eq_of_beq_eq_true hres
    subst hl
    exact lv_lload_n hx hb hd rfl (pm_Lv_at hL h1 rfl) (go (hN _ _ rfl).2)
  case lload k =>
    obtain ⟨x, h1, rfl⟩ := pm_ldl_some ho
    have hl : len = 2 := Nat.eq_of_beq_eq_true hres
    subst hl
    exact lv_lload hx hb hd (pm_Lv_at hL h1 rfl) (go (hN _ _ rfl).2)
  case aload_n k =>
    obtain ⟨w, h1, rfl, hw⟩ := pm_lda_some ho
    have hl : len = 1 := Nat.eq_of_beq_eq_true hres
    subst hl
    rcases hw with ⟨x, rfl⟩ | ⟨x, rfl⟩ | rfl
    · exact lv_aload_n hx hb hd rfl (pm_Lv_at hL h1 rfl) (go (hN _ _ rfl).2)
    · exact lv_aload_n hx hb hd rfl (pm_Lv_at hL h1 rfl) (go (hN _ _ rfl).2)
    · exact lv_aload_nN hx hb hd rfl (pm_Lv_at hL h1 rfl) (go (hN _ _ rfl).2)
  case aload k =>
    obtain ⟨w, h1, rfl, hw⟩ := pm_lda_some ho
    have hl : len = 2 := Nat.eq_of_beq_eq_true hres
    subst hl
    rcases hw with ⟨x, rfl⟩ | ⟨x, rfl⟩ | rfl
    · exact lv_aload hx hb hd (pm_Lv_at hL h1 rfl) (go (hN _ _ rfl).2)
    · exact lv_aload hx hb hd (pm_Lv_at hL h1 rfl) (go (hN _ _ rfl).2)
    · exact lv_aloadN hx hb hd (pm_Lv_at hL h1 rfl) (go (hN _ _ rfl).2)
  case istore_n k =>
    obtain ⟨x, r, rfl, hk, rfl⟩ := pm_sti_some ho
    have hl : len = 1 := Nat.eq_of_beq_eq_true hres
    subst hl
    obtain ⟨lv, hlv, hm⟩ := id hL
    exact lv_istore_n (lv := lv) hx hb hd rfl hlv hk rfl (fun ls' h' => goL (hN _ _ rfl).2 (pm_Lv_s1 (w := .int x) hm h'))
  case istore k =>
    obtain ⟨x, r, rfl, hk, rfl⟩ := pm_sti_some ho
    have hl : len = 2 := Nat.eq_of_beq_eq_true hres
    subst hl
    obtain ⟨lv, hlv, hm⟩ := id hL
    exact lv_istore (lv := lv) hx hb hd hlv hk rfl (fun ls' h' => goL (hN _ _ rfl).2 (pm_Lv_s1 (w := .int x) hm h'))
  case astore_n k =>
    obtain ⟨w, r, rfl, hk, rfl, hw⟩ := pm_sta_some ho
    have hl : len = 1 := Nat.eq_of_beq_eq_true hres
    subst hl
    obtain ⟨lv, hlv, hm⟩ := id hL
    rcases hw with ⟨x, rfl⟩ | ⟨x, rfl⟩ | rfl
    · exact lv_astore_n (lv := lv) hx hb hd rfl hlv hk rfl (fun ls' h' => goL (hN _ _ rfl).2 (pm_Lv_s1 (w := .ref x) hm h'))
    · exact lv_astore_n (lv := lv) hx hb hd rfl hlv hk rfl (fun ls' h' => goL (hN _ _ rfl).2 (pm_Lv_s1 (w := .float x) hm h'))
    · exact lv_astore_nN (lv := lv) hx hb hd rfl hlv hk rfl (fun ls' h' => goL (hN _ _ rfl).2 (pm_Lv_s1 (w := .null) hm h'))
  case astore k =>
    obtain ⟨w, r, rfl, hk, rfl, hw⟩ := pm_sta_some ho
    have hl : len = 2 := Nat.eq_of_beq_eq_true hres
    subst hl
    obtain ⟨lv, hlv, hm⟩ := id hL
    rcases hw with ⟨x, rfl⟩ | ⟨x, rfl⟩ | rfl
    · exact lv_astore (lv := lv) hx hb hd hlv hk rfl (fun ls' h' => goL (hN _ _ rfl).2 (pm_Lv_s1 (w := .ref x) hm h'))
    · exact lv_astore (lv := lv) hx hb hd hlv hk rfl (fun ls' h' => goL (hN _ _ rfl).2 (pm_Lv_s1 (w := .float x) hm h'))
    · exact lv_astoreN (lv := lv) hx hb hd hlv hk rfl (fun ls' h' => goL (hN _ _ rfl).2 (pm_Lv_s1 (w := .null) hm h'))
  case lstore_n k =>
    obtain ⟨x, r, rfl, hk, rfl⟩ := pm_stl_some ho
    have hl : len = 1 := Nat.eq_of_beq_eq_true hres
    subst hl
    obtain ⟨lv, hlv, hm⟩ := id hL
    exact lv_lstore_n (lv := lv) hx hb hd rfl hlv hk rfl (fun ls' h' => goL (hN _ _ rfl).2 (pm_Lv_s2 (w := .long x) hm h'))
  case lstore k =>
    obtain ⟨x, r, rfl, hk, rfl⟩ := pm_stl_some ho
    have hl : len = 2 := Nat.eq_of_beq_eq_true hres
    subst hl
    obtain ⟨lv, hlv, hm⟩ := id hL
    exact lv_lstore (lv := lv) hx hb hd hlv hk rfl (fun ls' h' => goL (hN _ _ rfl).2 (pm_Lv_s2 (w := .long x) hm h'))
  case iinc k n =>
    cases hk : L[k]? with
    | none => simp [pm_ex, hk] at ho
    | some w =>
      cases w
      case int x =>
        have hres : ((Nat.beq len 3 || Nat.beq len 6) && decide (v = .int (Int32.ofInt n))) = true := hres
        rw [Bool.and_eq_true] at hres
        obtain ⟨h1, h2⟩ := hres
        have hv := of_decide_eq_true h2
        subst hv
        simp only [pm_ex, hk] at ho
        split at ho
        · rename_i hb2
          cases ho
          obtain ⟨lv, hlv, hm⟩ := id hL
          obtain ⟨j, hj⟩ := List.getElem?_of_mem (hm k _ hk rfl)
          rw [Bool.or_eq_true] at h1
          rcases h1 with h1 | h1
          · have hl := Nat.eq_of_beq_eq_true h1
            subst hl
            exact lv_iinc (lv := lv) (k := j) hx hb hd hlv hj rfl (Nat.le_of_ble_eq_true hb2) rfl (fun ls' h' => goL (hN _ _ rfl).2 (pm_Lv_s1 (w := .int (x + Int32.ofInt n)) hm h'))
          · have hl := Nat.eq_of_beq_eq_true h1
            subst hl
            exact lv_iincW (lv := lv) (k := j) hx hb hd hlv hj rfl (Nat.le_of_ble_eq_true hb2) rfl (fun ls' h' => goL (hN _ _ rfl).2 (pm_Lv_s1 (w := .int (x + Int32.ofInt n)) hm h'))
        · cases ho
      all_goals simp [pm_ex, hk] at ho
  case iadd =>
    obtain ⟨st', h1, rfl⟩ := pm_nx_some ho
    obtain ⟨x, y, r, rfl, rfl⟩ := pm_i2_some h1
    have hl : len = 1 := Nat.eq_of_beq_eq_true hres
    subst hl
    exact lv_iadd hx hb hd (go (hN _ _ rfl).2)
  case isub =>
    obtain ⟨st', h1, rfl⟩ := pm_nx_some ho
    obtain ⟨x, y, r, rfl, rfl⟩ := pm_i2_some h1
    have hl : len = 1 := Nat.eq_of_beq_eq_true hres
    subst hl
    exact lv_isub hx hb hd (go (hN _ _ rfl).2)
  case imul =>
    obtain ⟨st', h1, rfl⟩ := pm_nx_some ho
    obtain ⟨x, y, r, rfl, rfl⟩ := pm_i2_some h1
    have hl : len = 1 := Nat.eq_of_beq_eq_true hres
    subst hl
    exact lv_imul hx hb hd (go (hN _ _ rfl).2)
  case iand =>
    obtain ⟨st', h1, rfl⟩ := pm_nx_some ho
    obtain ⟨x, y, r, rfl, rfl⟩ := pm_i2_some h1
    have hl : len = 1 := Nat.eq_of_beq_eq_true hres
    subst hl
    exact lv_iand hx hb hd (go (hN _ _ rfl).2)
  case ior =>
    obtain ⟨st', h1, rfl⟩ := pm_nx_some ho
    obtain ⟨x, y, r, rfl, rfl⟩ := pm_i2_some h1
    have hl : len = 1 := Nat.eq_of_beq_eq_true hres
    subst hl
    exact lv_ior hx hb hd (go (hN _ _ rfl).2)
  case ixor =>
    obtain ⟨st', h1, rfl⟩ := pm_nx_some ho
    obtain ⟨x, y, r, rfl, rfl⟩ := pm_i2_some h1
    have hl : len = 1 := Nat.eq_of_beq_eq_true hres
    subst hl
    exact lv_ixor hx hb hd (go (hN _ _ rfl).2)
  case ishl =>
    obtain ⟨st', h1, rfl⟩ := pm_nx_some ho
    obtain ⟨x, y, r, rfl, rfl⟩ := pm_i2_some h1
    have hl : len = 1 := Nat.eq_of_beq_eq_true hres
    subst hl
    exact lv_ishl hx hb hd (go (hN _ _ rfl).2)
  case ishr =>
    obtain ⟨st', h1, rfl⟩ := pm_nx_some ho
    obtain ⟨x, y, r, rfl, rfl⟩ := pm_i2_some h1
    have hl : len = 1 := Nat.eq_of_beq_eq_true hres
    subst hl
    exact lv_ishr hx hb hd (go (hN _ _ rfl).2)
  case iushr =>
    obtain ⟨st', h1, rfl⟩ := pm_nx_some ho
    obtain ⟨x, y, r, rfl, rfl⟩ := pm_i2_some h1
    have hl : len = 1 := Nat.eq_of_beq_eq_true hres
    subst hl
    exact lv_iushr hx hb hd rfl (go (hN _ _ rfl).2)
  case idiv =>
    simp only [pm_ex] at ho
    split at ho
    · cases ho
      have hl : len = 1 := Nat.eq_of_beq_eq_true hres
      subst hl
      obtain ⟨h1, h2⟩ := hN _ _ rfl
      exact lv_idiv hx hb hd (pm_n0 h1) (go h2)
    · cases ho
  case irem =>
    simp only [pm_ex] at ho
    split at ho
    · cases ho
      have hl : len = 1 := Nat.eq_of_beq_eq_true hres
      subst hl
      obtain ⟨h1, h2⟩ := hN _ _ rfl
      exact lv_irem hx hb hd (pm_n0 h1) (go h2)
    · cases ho
  case ladd =>
    obtain ⟨st', h1, rfl⟩ := pm_nx_some ho
    obtain ⟨x, y, r, rfl, rfl⟩ := pm_l2_some h1
    have hl : len = 1 := Nat.eq_of_beq_eq_true hres
    subst hl
    exact lv_ladd hx hb hd (go (hN _ _ rfl).2)
  case lmul =>
    obtain ⟨st', h1, rfl⟩ := pm_nx_some ho
    obtain ⟨x, y, r, rfl, rfl⟩ := pm_l2_some h1
    have hl : len = 1 := Nat.eq_of_beq_eq_true hres
    subst hl
    exact lv_lmul hx hb hd (go (hN _ _ rfl).2)
  case land =>
    obtain ⟨st', h1, rfl⟩ := pm_nx_some ho
    obtain ⟨x, y, r, rfl, rfl⟩ := pm_l2_some h1
    have hl : len = 1 := Nat.eq_of_beq_eq_true hres
    subst hl
    exact lv_land hx hb hd (go (hN _ _ rfl).2)
  case lor =>
    obtain ⟨st', h1, rfl⟩ := pm_nx_some ho
    obtain ⟨x, y, r, rfl, rfl⟩ := pm_l2_some h1
    have hl : len = 1 := Nat.eq_of_beq_eq_true hres
    subst hl
    exact lv_lor hx hb hd (go (hN _ _ rfl).2)
  case lxor =>
    obtain ⟨st', h1, rfl⟩ := pm_nx_some ho
    obtain ⟨x, y, r, rfl, rfl⟩ := pm_l2_some h1
    have hl : len = 1 := Nat.eq_of_beq_eq_true hres
    subst hl
    exact lv_lxor hx hb hd (go (hN _ _ rfl).2)
  case lsub =>
    obtain ⟨st', h1, rfl⟩ := pm_nx_some ho
    obtain ⟨x, y, r, rfl, rfl⟩ := pm_l2_some h1
    have hl : len = 1 := Nat.eq_of_beq_eq_true hres
    subst hl
    exact lv_lsub hx hb hd (go (hN _ _ rfl).2)
  case lcmp =>
    obtain ⟨st', h1, rfl⟩ := pm_nx_some ho
    obtain ⟨x, y, r, rfl, rfl⟩ := pm_l2_some h1
    have hl : len = 1 := Nat.eq_of_beq_eq_true hres
    subst hl
    exact W.lcmp hx hb hd (go (hN _ _ rfl).2)
  case lshl =>
    obtain ⟨st', h1, rfl⟩ := pm_nx_some ho
    obtain ⟨x, y, r, rfl, rfl⟩ := pm_li_some h1
    have hl : len = 1 := Nat.eq_of_beq_eq_true hres
    subst hl
    exact lv_lshl hx hb hd rfl (go (hN _ _ rfl).2)
  case lushr =>
    obtain ⟨st', h1, rfl⟩ := pm_nx_some ho
    obtain ⟨x, y, r, rfl, rfl⟩ := pm_li_some h1
    have hl : len = 1 := Nat.eq_of_beq_eq_true hres
    subst hl
    exact lv_lushr hx hb hd rfl (go (hN _ _ rfl).2)
  case i2l =>
    obtain ⟨st', h1, rfl⟩ := pm_nx_some ho
    obtain ⟨x, r, rfl, rfl⟩ := pm_i1_some h1
    have hl : len = 1 := Nat.eq_of_beq_eq_true hres
    subst hl
    exact lv_i2l hx hb hd rfl (go (hN _ _ rfl).2)
  case i2s =>
    obtain ⟨st', h1, rfl⟩ := pm_nx_some ho
    obtain ⟨x, r, rfl, rfl⟩ := pm_i1_some h1
    have hl : len = 1 := Nat.eq_of_beq_eq_true hres
    subst hl
    exact lv_i2s hx hb hd rfl (go (hN _ _ rfl).2)
  case l2i =>
    simp only [pm_ex] at ho
    split at ho
    · obtain ⟨st', h1, rfl⟩ := pm_nx_some ho
      cases h1
      have hl : len = 1 := Nat.eq_of_beq_eq_true hres
      subst hl
      exact lv_l2i hx hb hd rfl (go (hN _ _ rfl).2)
    · cases ho
  case dup =>
    simp only [pm_ex] at ho
    split at ho
    · split at ho
      · rename_i hb0
        obtain ⟨st', h1, rfl⟩ := pm_nx_some ho
        cases h1
        have hl : len = 1 := Nat.eq_of_beq_eq_true hres
        subst hl
        have hb1 := hb0
        exact lv_dup hx hb hd (by rw [pm_tr_cat]; exact pm_c2_cat hb1) (go (hN _ _ rfl).2)
      · cases ho
    · cases ho
  case dup_x1 =>
    simp only [pm_ex] at ho
    split at ho
    · split at ho
      · rename_i hb0
        obtain ⟨st', h1, rfl⟩ := pm_nx_some ho
        cases h1
        have hl : len = 1 := Nat.eq_of_beq_eq_true hres
        subst hl
        rw [Bool.or_eq_false_iff] at hb0
        obtain ⟨hb1, hb2⟩ := hb0
        exact lv_dup_x1 hx hb hd (by rw [pm_tr_cat]; exact pm_c2_cat hb1) (by rw [pm_tr_cat]; exact pm_c2_cat hb2) (go (hN _ _ rfl).2)
      · cases ho
    · cases ho
  case dup_x2 =>
    simp only [pm_ex] at ho
    split at ho
    · split at ho
      · rename_i hb0
        obtain ⟨st', h1, rfl⟩ := pm_nx_some ho
        cases h1
        have hl : len = 1 := Nat.eq_of_beq_eq_true hres
        subst hl
        rw [Bool.or_eq_false_iff, Bool.or_eq_false_iff] at hb0
        obtain ⟨hb1, hb2, hb3⟩ := hb0
        exact lv_dup_x2 hx hb hd (by rw [pm_tr_cat]; exact pm_c2_cat hb1) (by rw [pm_tr_cat]; exact pm_c2_cat hb2) (by rw [pm_tr_cat]; exact pm_c2_cat hb3) (go (hN _ _ rfl).2)
      · cases ho
    · cases ho
  case dup2 =>
    simp only [pm_ex] at ho
    split at ho
    · split at ho
      · rename_i hb0
        obtain ⟨st', h1, rfl⟩ := pm_nx_some ho
        cases h1
        have hl : len = 1 := Nat.eq_of_beq_eq_true hres
        subst hl
        rw [Bool.or_eq_false_iff] at hb0
        obtain ⟨hb1, hb2⟩ := hb0
        exact lv_dup2_11 hx hb hd (by rw [pm_tr_cat]; exact pm_c2_cat hb1) (by rw [pm_tr_cat]; exact pm_c2_cat hb2) (go (hN _ _ rfl).2)
      · cases ho
    · cases ho
  case pop =>
    simp only [pm_ex] at ho
    split at ho
    · split at ho
      · rename_i hb0
        obtain ⟨st', h1, rfl⟩ := pm_nx_some ho
        cases h1
        have hl : len = 1 := Nat.eq_of_beq_eq_true hres
        subst hl
        have hb1 := hb0
        exact lv_pop hx hb hd (by rw [pm_tr_cat]; exact pm_c2_cat hb1) (go (hN _ _ rfl).2)
      · cases ho
    · cases ho
  case goto off =>
    cases ho
    have hres : (Nat.beq len 3 && decide ((pc : Int) + off = (a : Int))) = true := hres
    rw [Bool.and_eq_true] at hres
    obtain ⟨h1, h2⟩ := hres
    have hl := Nat.eq_of_beq_eq_true h1
    have ht := of_decide_eq_true h2
    subst hl
    exact lv_goto hx hb hd ht (go (hN _ _ rfl).2)
  case ifCond cond off =>
    simp only [pm_ex] at ho
    split at ho
    · have hres : (Nat.beq len 3 && decide ((pc : Int) + off = (a : Int))) = true := hres
      rw [Bool.and_eq_true] at hres
      obtain ⟨h1, h2⟩ := hres
      have hl := Nat.eq_of_beq_eq_true h1
      have ht := of_decide_eq_true h2
      subst hl
      cases cond
      case eq => cases ho; exact lv_if_eq hx hb hd ht (fun c => go ((hB _ _ _ rfl).1 (decide_eq_true c))) (fun c => go ((hB _ _ _ rfl).2 (decide_eq_false c)))
      case ne => cases ho; exact lv_if_ne hx hb hd ht (fun c => go ((hB _ _ _ rfl).2 (decide_eq_false c))) (fun c => go ((hB _ _ _ rfl).1 (decide_eq_true c)))
      case lt => cases ho; exact lv_if_lt hx hb hd ht (fun c => go ((hB _ _ _ rfl).1 (decide_eq_true c))) (fun c => go ((hB _ _ _ rfl).2 (decide_eq_false c)))
      case ge => cases ho; exact lv_if_ge hx hb hd ht (fun c => go ((hB _ _ _ rfl).1 (decide_eq_true c))) (fun c => go ((hB _ _ _ rfl).2 (decide_eq_false c)))
      case gt => cases ho; exact lv_if_gt hx hb hd ht (fun c => go ((hB _ _ _ rfl).1 (decide_eq_true c))) (fun c => go ((hB _ _ _ rfl).2 (decide_eq_false c)))
      case le => cases ho; exact lv_if_le hx hb hd ht (fun c => go ((hB _ _ _ rfl).1 (decide_eq_true c))) (fun c => go ((hB _ _ _ rfl).2 (decide_eq_false c)))
    · cases ho
  case if_icmp cond off =>
    simp only [pm_ex] at ho
    split at ho
    · have hres : (Nat.beq len 3 && decide ((pc : Int) + off = (a : Int))) = true := hres
      rw [Bool.and_eq_true] at hres
      obtain ⟨h1, h2⟩ := hres
      have hl := Nat.eq_of_beq_eq_true h1
      have ht := of_decide_eq_true h2
      subst hl
      cases cond
      case eq => cases ho; exact lv_icmp_eq hx hb hd ht (fun c => go ((hB _ _ _ rfl).1 (decide_eq_true c))) (fun c => go ((hB _ _ _ rfl).2 (decide_eq_false c)))
      case ne => cases ho; exact lv_icmp_ne hx hb hd ht (fun c => go ((hB _ _ _ rfl).2 (decide_eq_false c))) (fun c => go ((hB _ _ _ rfl).1 (decide_eq_true c)))
      case lt => cases ho; exact lv_icmp_lt hx hb hd ht (fun c => go ((hB _ _ _ rfl).1 (decide_eq_true c))) (fun c => go ((hB _ _ _ rfl).2 (decide_eq_false c)))
      case ge => cases ho; exact lv_icmp_ge hx hb hd ht (fun c => go ((hB _ _ _ rfl).1 (decide_eq_true c))) (fun c => go ((hB _ _ _ rfl).2 (decide_eq_false c)))
      case gt => cases ho; exact lv_icmp_gt hx hb hd ht (fun c => go ((hB _ _ _ rfl).1 (decide_eq_true c))) (fun c => go ((hB _ _ _ rfl).2 (decide_eq_false c)))
      case le => cases ho; exact lv_icmp_le hx hb hd ht (fun c => go ((hB _ _ _ rfl).1 (decide_eq_true c))) (fun c => go ((hB _ _ _ rfl).2 (decide_eq_false c)))
    · cases ho
  case ifnull off =>
    have hres : (Nat.beq len 3 && decide ((pc : Int) + off = (a : Int))) = true := hres
    rw [Bool.and_eq_true] at hres
    obtain ⟨h1, h2⟩ := hres
    have hl := Nat.eq_of_beq_eq_true h1
    have ht := of_decide_eq_true h2
    subst hl
    simp only [pm_ex] at ho
    split at ho
    · cases ho; exact lv_ifnullN hx hb hd ht (go (hN _ _ rfl).2)
    · cases ho; exact lv_ifnull hx hb hd (go (hN _ _ rfl).2)
    · cases ho
  case ifnonnull off =>
    have hres : (Nat.beq len 3 && decide ((pc : Int) + off = (a : Int))) = true := hres
    rw [Bool.and_eq_true] at hres
    obtain ⟨h1, h2⟩ := hres
    have hl := Nat.eq_of_beq_eq_true h1
    have ht := of_decide_eq_true h2
    subst hl
    simp only [pm_ex] at ho
    split at ho
    · cases ho; exact lv_ifnonnullN hx hb hd (go (hN _ _ rfl).2)
    · cases ho; exact lv_ifnonnull hx hb hd ht (go (hN _ _ rfl).2)
    · cases ho
  case tableswitch dflt lo hi offs =>
    have hres : (decide (0 ≤ (pc : Int) + dflt) && (offs.toList.all (fun o => decide (0 ≤ (pc : Int) + o)) && decide ((offs.size : Int) = hi - lo + 1))) = true := hres
    simp only [Bool.and_eq_true, decide_eq_true_eq, List.all_eq_true] at hres
    obtain ⟨h1, h2, h3⟩ := hres
    simp only [pm_ex] at ho
    split at ho
    · rename_i x r
      cases ho
      by_cases hq : x.toInt < lo ∨ hi < x.toInt
      · exact lv_tableOut hx hb hd hq (pm_swpc_out hq h1) (go (hN _ _ rfl).2)
      · have hlt : (x.toInt - lo).toNat < offs.size := by omega
        have hof : offs[(x.toInt - lo).toNat]? = some offs[(x.toInt - lo).toNat] := Array.getElem?_eq_getElem hlt
        exact lv_tableIn hx hb hd (fun q => hq (Or.inl q)) (fun q => hq (Or.inr q)) hof (pm_swpc_in hq hof (h2 _ (by simp))) (go (hN _ _ rfl).2)
    · cases ho
  case instanceof k =>
    simp only [pm_ex] at ho
    split at ho
    · obtain ⟨st', h1, rfl⟩ := pm_nx_some ho
      cases h1
      have hl : len = 3 := Nat.eq_of_beq_eq_true hres
      subst hl
      exact lv_instN hx hb hd (go (hN _ _ rfl).2)
    · cases ho
  case getstatic k =>
    cases ho
    cases hsn : SN[a]? with
    | none => simp [pm_res, hsn] at hres
    | some q =>
      obtain ⟨C, n⟩ := q
      simp only [pm_res, hsn, Bool.and_eq_true, Bool.or_eq_true] at hres
      obtain ⟨h1, h2⟩ := hres
      have hl := Nat.eq_of_beq_eq_true h1
      subst hl
      rcases h2 with h2 | h2
      · exact va_gets hx hb (hSt.1 a _ hsn) hS hown (hts _ (hmem _ _ h2)) (fun _ h9 => h9) hd (go (hN _ _ rfl).2)
      · have h3 := hNs.1 _ (hmemN _ _ h2)
        exact va_getsN hx hb (hSt.1 a _ hsn) hS hown (va_Nw.use rfl h3) (fun _ h9 => h9) hd (go (hN _ _ rfl).2)
  case getfield k =>
    simp only [pm_ex] at ho
    split at ho
    · rename_i o2 r
      split at ho
      · rename_i fs hfs
        split at ho
        · rename_i w hw
          obtain ⟨st', h1, rfl⟩ := pm_nx_some ho
          cases h1
          cases hcl : cl[a]? with
          | none => simp [pm_res, hcl] at hres
          | some q =>
            obtain ⟨C, T, N⟩ := q
            simp only [pm_res, hcl, Bool.and_eq_true, Bool.or_eq_true] at hres
            obtain ⟨h1, h2, h3⟩ := hres
            have hl := Nat.eq_of_beq_eq_true h1
            subst hl
            have hP := pm_P1o hcl (hJ.2 _ _ (pm_ob_some hfs))
            have hin := (hcls a _ hcl).1
            rcases h3 with h3 | h3
            · exact va_get hx hb hts hin hown hK hP 0 rfl hcl b (Nat.le_of_ble_eq_true h2) (hts _ (hmem _ _ h3)) (fun _ h9 => h9) (pm_V_tr z sa fs hw) hd (go (hN _ _ rfl).2)
            · have h4 := hNs.1 _ (hmemN _ _ h3)
              exact va_getN hx hb hts hin hown hK hP 0 rfl hcl b (Nat.le_of_ble_eq_true h2) (va_Nw.use rfl h4) (fun _ h9 => h9) (pm_V_tr z sa fs hw) hd (go (hN _ _ rfl).2)
        · cases ho
      · cases ho
    · cases ho
  case putfield k =>
    simp only [pm_ex] at ho
    split at ho
    · rename_i w o2 r
      split at ho
      · rename_i fs hfs
        split at ho
        · rename_i w0 ps hw hft
          cases ho
          cases hcl : cl[a]? with
          | none => simp [pm_res, hcl] at hres
          | some q =>
            obtain ⟨C, T, N⟩ := q
            simp only [pm_res, hcl, Bool.and_eq_true] at hres
            obtain ⟨h1, h2, h3⟩ := hres
            have hl := Nat.eq_of_beq_eq_true h1
            subst hl
            obtain ⟨hin, hty, hnm, -, -⟩ := hcls a _ hcl
            obtain ⟨hps, hnext⟩ := hN _ _ rfl
            refine pm_put hx hb hts hin (ft a) hty hnm hown hK hJ hS (pm_ob_some hfs) hcl (Nat.le_of_ble_eq_true h2) ?_ (pm_fit_ok hft hps) (List.getElem?_eq_some_iff.mp hw).1 hd (fun H1 locs1 hJ1 hS1 => goH hnext hJ1 hS1)
            split at h3
            · rename_i hfin
              rw [Bool.or_eq_true] at h3
              rcases h3 with h3 | h3
              · exact Or.inl ⟨hfin, hts _ (hmem _ _ h3)⟩
              · have h4 := hNs.1 _ (hmemN _ _ h3)
                exact Or.inr (Or.inl ⟨hfin, HO, va_Nw.use rfl h4⟩)
            · rename_i hfin
              simp only [Bool.and_eq_true, decide_eq_true_eq] at h3
              exact Or.inr (Or.inr ⟨hfin, hname h3.2.1, h3.2.2, hts _ (hmem _ _ h3.1)⟩)
        · cases ho
      · cases ho
    · cases ho
  case arraylength =>
    have hl : len = 1 := Nat.eq_of_beq_eq_true hres
    subst hl
    simp only [pm_ex] at ho
    split at ho
    · rename_i k r
      split at ho
      · rename_i t n f hk
        split at ho
        · rename_i hbt
          obtain ⟨st', h1, rfl⟩ := pm_nx_some ho
          cases h1
          have hP := pm_P1 (hJ.2 k _ hk)
          have hle := Nat.le_of_ble_eq_true hbt
          have htt : ∃ ty, (pm_tys HN tc)[t]? = some (tc t, ty) := by
            match t, hle with
            | 0, _ => exact ⟨_, rfl⟩
            | 1, _ => exact ⟨_, rfl⟩
            | 2, _ => exact ⟨_, rfl⟩
            | 3, _ => exact ⟨_, rfl⟩
            | 4, _ => exact ⟨_, rfl⟩
            | j + 5, h => omega
          obtain ⟨ty, htt⟩ := htt
          exact va_alen hx hb hK hP 0 t rfl htt rfl hd (go (hN _ _ rfl).2)
        · cases ho
      · cases ho
    · rename_i j r
      obtain ⟨st', h1, rfl⟩ := pm_nx_some ho
      cases h1
      exact va_tlen hx hb (hSt.2 j.toNat) hS rfl hd (go (hN _ _ rfl).2)
    · cases ho
  case iaload =>
    have hl : len = 1 := Nat.eq_of_beq_eq_true hres
    subst hl
    simp only [pm_ex] at ho
    split at ho
    · rename_i i k r
      split at ho
      · rename_i n f hk
        cases ho
        obtain ⟨h1, h2⟩ := hN _ _ rfl
        exact va_iald hx hb hK (pm_P1 (hJ.2 k _ (pm_ar_some hk))) 0 0 rfl rfl (pm_in_ok h1) hd (go h2)
      · cases ho
    · rename_i i j r
      cases ho
      obtain ⟨h1, h2⟩ := hN _ _ rfl
      exact va_ti hx hb (hSt.2 j.toNat) hS (pm_in_ok h1) rfl hd (go h2)
    · cases ho
  case laload =>
    have hl : len = 1 := Nat.eq_of_beq_eq_true hres
    subst hl
    simp only [pm_ex] at ho
    split at ho
    · rename_i i k r
      split at ho
      · rename_i n f hk
        cases ho
        obtain ⟨h1, h2⟩ := hN _ _ rfl
        exact va_lald hx hb hK (pm_P1 (hJ.2 k _ (pm_ar_some hk))) 0 1 rfl rfl (pm_in_ok h1) hd (go h2)
      · cases ho
    · cases ho
  case baload =>
    have hl : len = 1 := Nat.eq_of_beq_eq_true hres
    subst hl
    simp only [pm_ex] at ho
    split at ho
    · rename_i i k r
      split at ho
      · rename_i n f hk
        cases ho
        obtain ⟨h1, h2⟩ := hN _ _ rfl
        exact va_zald hx hb hK (pm_P1 (hJ.2 k _ (pm_ar_some hk))) 0 2 rfl rfl (pm_in_ok h1) hd (go h2)
      · cases ho
    · cases ho
  case saload =>
    have hl : len = 1 := Nat.eq_of_beq_eq_true hres
    subst hl
    simp only [pm_ex] at ho
    split at ho
    · rename_i i k r
      split at ho
      · rename_i n f hk
        cases ho
        obtain ⟨h1, h2⟩ := hN _ _ rfl
        exact va_sald hx hb hK (pm_P1 (hJ.2 k _ (pm_ar_some hk))) 0 3 rfl rfl (pm_in_ok h1) hd (go h2)
      · cases ho
    · cases ho
  case aaload =>
    have hl : len = 1 := Nat.eq_of_beq_eq_true hres
    subst hl
    simp only [pm_ex] at ho
    split at ho
    · rename_i i k r
      split at ho
      · rename_i n f hk
        cases ho
        obtain ⟨h1, h2⟩ := hN _ _ rfl
        refine va_aldq hx hb hK (pm_P1 (hJ.2 k _ (pm_ar_some hk))) 0 4 rfl rfl (pm_in_ok h1) hd (W.eq (g2 := F0 m (pc + 1) ls ((va_rf (f i.toNatClampNeg) :: r).map (pm_tr z sa))) ?_ (go h2))
        cases f i.toNatClampNeg <;> rfl
      · cases ho
    · cases ho
  case iastore =>
    have hl : len = 1 := Nat.eq_of_beq_eq_true hres
    subst hl
    simp only [pm_ex] at ho
    split at ho
    · rename_i x i k r
      split at ho
      · rename_i n f hk
        cases ho
        obtain ⟨h1, h2⟩ := hN _ _ rfl
        exact pm_iast hx hb hK hJ hS (pm_ar_some hk) (pm_in_ok h1) hd (fun H1 locs1 hJ1 hS1 => goH h2 hJ1 hS1)
      · cases ho
    · cases ho
  case lastore =>
    have hl : len = 1 := Nat.eq_of_beq_eq_true hres
    subst hl
    simp only [pm_ex] at ho
    split at ho
    · rename_i x i k r
      split at ho
      · rename_i n f hk
        cases ho
        obtain ⟨h1, h2⟩ := hN _ _ rfl
        exact pm_last hx hb hK hJ hS (pm_ar_some hk) (pm_in_ok h1) hd (fun H1 locs1 hJ1 hS1 => goH h2 hJ1 hS1)
      · cases ho
    · cases ho
  case bastore =>
    have hl : len = 1 := Nat.eq_of_beq_eq_true hres
    subst hl
    simp only [pm_ex] at ho
    split at ho
    · rename_i x i k r
      split at ho
      · rename_i n f hk
        cases ho
        obtain ⟨h1, h2⟩ := hN _ _ rfl
        exact pm_zast hx hb hK hJ hS (pm_ar_some hk) (pm_in_ok h1) hd (fun H1 locs1 hJ1 hS1 => goH h2 hJ1 hS1)
      · cases ho
    · cases ho
  case sastore =>
    have hl : len = 1 := Nat.eq_of_beq_eq_true hres
    subst hl
    simp only [pm_ex] at ho
    split at ho
    · rename_i x i k r
      split at ho
      · rename_i n f hk
        cases ho
        obtain ⟨h1, h2⟩ := hN _ _ rfl
        exact pm_sast hx hb hK hJ hS (pm_ar_some hk) (pm_in_ok h1) hd (fun H1 locs1 hJ1 hS1 => goH h2 hJ1 hS1)
      · cases ho
    · cases ho
  case aastore =>
    have hl : len = 1 := Nat.eq_of_beq_eq_true hres
    subst hl
    simp only [pm_ex] at ho
    split at ho
    · rename_i y i k r
      split at ho
      · rename_i n f ci fs hk hy
        split at ho
        · rename_i hci
          cases ho
          obtain ⟨h1, h2⟩ := hN _ _ rfl
          have hci2 : ci = 2 ∨ ci = 7 ∨ ci = 8 := by
            simp only [Bool.or_eq_true] at hci
            rcases hci with q | q | q
            · exact Or.inl (Nat.eq_of_beq_eq_true q)
            · exact Or.inr (Or.inl (Nat.eq_of_beq_eq_true q))
            · exact Or.inr (Or.inr (Nat.eq_of_beq_eq_true q))
          obtain ⟨rC, hrC, hcast⟩ := hheld ci hci2
          exact pm_aast hx hb hK hJ hS (pm_ar_some hk) hy hrC (hNs.1 _ hcast) (pm_in_ok h1) hd (fun H1 locs1 hJ1 hS1 => goH h2 hJ1 hS1)
        · cases ho
      · cases ho
    · rename_i i k r
      split at ho
      · rename_i n f hk
        cases ho
        obtain ⟨h1, h2⟩ := hN _ _ rfl
        exact pm_aastN hx hb hK hJ hS (pm_ar_some hk) (pm_in_ok h1) hd (fun H1 locs1 hJ1 hS1 => goH h2 hJ1 hS1)
      · cases ho
    · cases ho
  case new k =>
    simp only [pm_ex] at ho
    cases ho
    cases hcl : cl[a]? with
    | none => simp [pm_res, hcl] at hres
    | some q =>
      obtain ⟨C, T, N⟩ := q
      simp only [pm_res, hcl, Bool.and_eq_true] at hres
      obtain ⟨h1, h2, h3⟩ := hres
      have hl := Nat.eq_of_beq_eq_true h1
      have hbN := Nat.eq_of_beq_eq_true h2
      subst hl hbN
      obtain ⟨hin, hty, -, hdl, hdv⟩ := hcls a _ hcl
      obtain ⟨⟨g1, g2⟩, hnext⟩ := hN _ _ rfl
      exact pm_new hx hb hts hin (ft a) hty hown (hts _ (hmem _ _ h3)) (hts _ (hcls2 a _ hcl).1) (hts _ (hcls2 a _ hcl).2) hK hJ hS hcl hdl hdv (Nat.le_of_ble_eq_true g1) (Nat.le_of_ble_eq_true g2) hd (fun H1 hJ1 hS1 => goA hnext hJ1 hS1 (Nat.le_of_ble_eq_true g1) (Nat.le_of_ble_eq_true g2))
  case newarray at9 =>
    simp only [pm_ex] at ho
    split at ho
    · rename_i n r
      cases ho
      obtain ⟨⟨g0, g3, g1, g2⟩, hnext⟩ := hN _ _ rfl
      simp only [pm_res, Bool.and_eq_true] at hres
      obtain ⟨h1, h2⟩ := hres
      have hl := Nat.eq_of_beq_eq_true h1
      subst hl
      split at h2
      · have h3 := of_decide_eq_true h2
        subst h3
        exact pm_newa (atype := .int) (t := 0) (ty := .int) hx hb (hts _ harr.1) rfl rfl (fun cA N => rfl) (fun cA hh => hh) hK hJ hS (pm_n0 g0) (Nat.le_trans (Nat.mul_le_mul_left _ (by decide)) (Nat.le_of_ble_eq_true g3)) (Nat.le_of_ble_eq_true g1) (Nat.le_of_ble_eq_true g2) hd (fun H1 hJ1 hS1 => goA hnext hJ1 hS1 (Nat.le_of_ble_eq_true g1) (Nat.le_of_ble_eq_true g2))
      · have h3 := of_decide_eq_true h2
        subst h3
        exact pm_newa (atype := .long) (t := 1) (ty := .long) hx hb (hts _ harr.2.1) rfl rfl (fun cA N => rfl) (fun cA hh => hh) hK hJ hS (pm_n0 g0) (Nat.le_trans (Nat.mul_le_mul_left _ (by decide)) (Nat.le_of_ble_eq_true g3)) (Nat.le_of_ble_eq_true g1) (Nat.le_of_ble_eq_true g2) hd (fun H1 hJ1 hS1 => goA hnext hJ1 hS1 (Nat.le_of_ble_eq_true g1) (Nat.le_of_ble_eq_true g2))
      · have h3 := of_decide_eq_true h2
        subst h3
        exact pm_newa (atype := .boolean) (t := 2) (ty := .boolean) hx hb (hts _ harr.2.2.1) rfl rfl (fun cA N => rfl) (fun cA hh => hh) hK hJ hS (pm_n0 g0) (Nat.le_trans (Nat.mul_le_mul_left _ (by decide)) (Nat.le_of_ble_eq_true g3)) (Nat.le_of_ble_eq_true g1) (Nat.le_of_ble_eq_true g2) hd (fun H1 hJ1 hS1 => goA hnext hJ1 hS1 (Nat.le_of_ble_eq_true g1) (Nat.le_of_ble_eq_true g2))
      · have h3 := of_decide_eq_true h2
        subst h3
        exact pm_newa (atype := .short) (t := 3) (ty := .short) hx hb (hts _ harr.2.2.2) rfl rfl (fun cA N => rfl) (fun cA hh => hh) hK hJ hS (pm_n0 g0) (Nat.le_trans (Nat.mul_le_mul_left _ (by decide)) (Nat.le_of_ble_eq_true g3)) (Nat.le_of_ble_eq_true g1) (Nat.le_of_ble_eq_true g2) hd (fun H1 hJ1 hS1 => goA hnext hJ1 hS1 (Nat.le_of_ble_eq_true g1) (Nat.le_of_ble_eq_true g2))
      · cases h2
    · cases ho
  case anewarray k =>
    simp only [pm_ex] at ho
    split at ho
    · rename_i n r
      cases ho
      obtain ⟨⟨g0, g3, g1, g2⟩, hnext⟩ := hN _ _ rfl
      simp only [pm_res, Bool.and_eq_true] at hres
      obtain ⟨h1, h2⟩ := hres
      have hl := Nat.eq_of_beq_eq_true h1
      subst hl
      exact pm_newq hx hb hown (hts _ (hmem _ _ h2)) hNs.2 hK hJ hS (pm_n0 g0) (Nat.le_trans (Nat.mul_le_mul_left _ (by decide)) (Nat.le_of_ble_eq_true g3)) (Nat.le_of_ble_eq_true g1) (Nat.le_of_ble_eq_true g2) hd (fun H1 hJ1 hS1 => goA hnext hJ1 hS1 (Nat.le_of_ble_eq_true g1) (Nat.le_of_ble_eq_true g2))
    · cases ho
  case invokevirtual k =>
    simp only [pm_ex] at ho
    split at ho
    · rename_i n
      simp only [pm_res, Bool.and_eq_true] at hres
      obtain ⟨h1, h2⟩ := hres
      have hl := Nat.eq_of_beq_eq_true h1
      subst hl
      exact pm_snd_call (L := L) (inv := 0) hG hC hL hJ hS hc0 hs0 h2 (fun _ => hd) (fun hh => absurd hh (by decide)) (fun hh => absurd hh (by decide)) ho (fun q hq => by
      obtain ⟨k1, Y, K', k2, k3, k4⟩ := hCl q hq
      exact ⟨k1, Y, K', k2, k3, fun r h' H1 locs1 g1 g2 g3 g4 g5 => k4 r h' g1 p l e s m args below meth cd H1 locs1 ls Q hC hwf hL g2 g3 g4 g5 hend⟩)
    · cases ho
  case invokestatic k =>
    simp only [pm_ex] at ho
    split at ho
    · rename_i n
      simp only [pm_res, Bool.and_eq_true] at hres
      obtain ⟨h1, h2⟩ := hres
      have hl := Nat.eq_of_beq_eq_true h1
      subst hl
      exact pm_snd_call (L := L) (inv := 1) hG hC hL hJ hS hc0 hs0 h2 (fun hh => absurd hh (by decide)) (fun _ => hd) (fun hh => absurd hh (by decide)) ho (fun q hq => by
      obtain ⟨k1, Y, K', k2, k3, k4⟩ := hCl q hq
      exact ⟨k1, Y, K', k2, k3, fun r h' H1 locs1 g1 g2 g3 g4 g5 => k4 r h' g1 p l e s m args below meth cd H1 locs1 ls Q hC hwf hL g2 g3 g4 g5 hend⟩)
    · cases ho
  case invokespecial k =>
    simp only [pm_ex] at ho
    split at ho
    · split at ho
      · rename_i r
        split at ho
        · rename_i hbr
          obtain ⟨st', h1, rfl⟩ := pm_nx_some ho
          cases h1
          simp only [pm_res, Bool.and_eq_true] at hres
          obtain ⟨h1, h2⟩ := hres
          have hl := Nat.eq_of_beq_eq_true h1
          subst hl
          rw [Bool.and_eq_true] at hbr
          have hr1 := Nat.le_of_ble_eq_true hbr.1
          have hr2 := Nat.le_of_ble_eq_true hbr.2
          refine W.objInit hx hb hown (hts _ (hmem _ _ h2)) (hts _ hoi) (hts _ hoc) rfl (by rw [hml]; exact pm_Lv_size hL) (rest := r.map (pm_tr z sa)) rfl hd hr1 ?_ (W.eq (g2 := F0 m (pc + 3) ls (r.map (pm_tr z sa))) rfl (go (hN _ _ rfl).2))
          rw [pm_cat_tr]
          first | exact hr2 | (simp only [Nat.mul_zero, Nat.zero_add]; exact hr2) | (show 2 * 0 + pm_cat r + 12 ≤ _; omega)
        · cases ho
      · cases ho
    · rename_i hne
      split at ho
      · rename_i n
        have hres : (Nat.beq len 3 && pm_resC MT mem memN HO M k a b n 2) = true := by
          simp only [pm_res] at hres
          exact hres
        rw [Bool.and_eq_true] at hres
        obtain ⟨h1, h2⟩ := hres
        have hl := Nat.eq_of_beq_eq_true h1
        subst hl
        exact pm_snd_call (L := L) (inv := 2) hG hC hL hJ hS hc0 hs0 h2 (fun hh => absurd hh (by decide)) (fun hh => absurd hh (by decide)) (fun _ => hd) ho (fun q hq => by
      obtain ⟨k1, Y, K', k2, k3, k4⟩ := hCl q hq
      exact ⟨k1, Y, K', k2, k3, fun r h' H1 locs1 g1 g2 g3 g4 g5 => k4 r h' g1 p l e s m args below meth cd H1 locs1 ls Q hC hwf hL g2 g3 g4 g5 hend⟩)
      · cases ho
  case ireturn =>
    have hl : len = 1 := Nat.eq_of_beq_eq_true hres
    subst hl
    simp only [pm_ex] at ho
    split at ho
    · split at ho
      · rename_i x _ ps hf
        cases ho
        obtain ⟨h1, h2⟩ := hR _ _ rfl
        exact W.widen hc0 hs0 (hend (some (.int x)) h H locs pc ls h2 hJ hS (pm_fitR_end hf h1 (fun _ _ => hd) (fun _ q => by cases q) (fun q => by rcases q with q | ⟨_, q⟩ <;> cases q)))
      · cases ho
    · cases ho
  case lreturn =>
    have hl : len = 1 := Nat.eq_of_beq_eq_true hres
    subst hl
    simp only [pm_ex] at ho
    split at ho
    · split at ho
      · rename_i x _ ps hf
        cases ho
        obtain ⟨h1, h2⟩ := hR _ _ rfl
        exact W.widen hc0 hs0 (hend (some (.long x)) h H locs pc ls h2 hJ hS (pm_fitR_end hf h1 (fun _ q => by cases q) (fun _ _ => hd) (fun q => by rcases q with q | ⟨_, q⟩ <;> cases q)))
      · cases ho
    · cases ho
  case areturn =>
    have hl : len = 1 := Nat.eq_of_beq_eq_true hres
    subst hl
    simp only [pm_ex] at ho
    split at ho
    · split at ho
      · rename_i x _ ps hf
        cases ho
        obtain ⟨h1, h2⟩ := hR _ _ rfl
        exact W.widen hc0 hs0 (hend (some (.ref x)) h H locs pc ls h2 hJ hS (pm_fitR_end hf h1 (fun _ q => by cases q) (fun _ q => by cases q) (fun _ => hd)))
      · cases ho
    · split at ho
      · rename_i ps hf
        cases ho
        obtain ⟨h1, h2⟩ := hR _ _ rfl
        exact W.widen hc0 hs0 (hend (some .null) h H locs pc ls h2 hJ hS (pm_fitR_end hf h1 (fun _ q => by cases q) (fun _ q => by cases q) (fun _ => hd)))
      · cases ho
    · cases ho
  case return_ =>
    have hl : len = 1 := Nat.eq_of_beq_eq_true hres
    subst hl
    simp only [pm_ex] at ho
    split at ho
    · rename_i hf
      cases ho
      obtain ⟨h1, h2⟩ := hR _ _ rfl
      exact W.widen hc0 hs0 (hend none h H locs pc ls h2 hJ hS ⟨hd, hf⟩)
    · cases ho
  all_goals exact absurd (show (none : Option pm_O) = some o from ho) nofun
theorem pm_snd (hG : pm_G ft df MT mem memN HO tbl nst cl SN HN XP z) (hX : pm_XO SL SV MT EX mem memN HO tbl nst cl SN HN XP D tc z sa) (M : pm_M) (c : pm_C) (K : pm_K) (hF : pm_F ft df SL SV MT EX (pm_Snd SL SV MT mem memN HO tbl nst cl SN HN XP D tc z sa) M c K) : pm_Snd SL SV MT mem memN HO tbl nst cl SN HN XP D tc z sa M c K := by
  intro p l e s m args below meth cd H locs ls Q hC hwf hL hJ hS hc0 hs0 hend
  obtain ⟨pc, L, st, h, c0, s0⟩ := c
  unfold pm_F at hF
  cases hst : pm_step ft df SL SV MT M (pc, L, st, h, c0, s0) with
  | none =>
    rw [hst] at hF
    obtain ⟨R, h1, h2⟩ := hF
    exact hX M _ R h1 p l e s m args below meth cd H locs ls Q hC hwf hL hJ hS hc0 hs0 (fun c' H' locs' ls' hR g1 g2 g3 g4 g5 => h2 c' hR p l e s m args below meth cd H' locs' ls' Q hC hwf g1 g2 g3 g4 g5 hend)
  | some o =>
    rw [hst] at hF
    dsimp only at hL hJ hc0 hs0 ⊢
    unfold pm_step at hst
    dsimp only at hst
    cases hq : pm_look M pc with
    | none => rw [hq] at hst; cases hst
    | some q =>
      rw [hq] at hst
      obtain ⟨i, len, a, b, v⟩ := q
      dsimp only at hst
      obtain ⟨hd, hres⟩ := hwf _ _ hq
      dsimp only at hd hres
      refine pm_snd1 hG hd hres hst ?_ ?_ ?_ ?_ hC hwf hL hJ hS hc0 hs0 hend
      · intro ps c' eo; subst eo; exact hF
      · intro q c1 c2 eo; subst eo; exact hF
      · intro ps w eo; subst eo; exact hF
      · intro q eo; subst eo; exact hF
theorem pm_sound (hG : pm_G ft df MT mem memN HO tbl nst cl SN HN XP z) (hX : pm_XO SL SV MT EX mem memN HO tbl nst cl SN HN XP D tc z sa) {M : pm_M} {c : pm_C} {K : pm_K} (h : pm_W ft df SL SV MT EX M c K) : pm_Snd SL SV MT mem memN HO tbl nst cl SN HN XP D tc z sa M c K := h _ (pm_snd hG hX)
end PMS
