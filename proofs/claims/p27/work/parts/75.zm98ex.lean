/-! the class's Orders: explore -/
section EX
variable {L : Nat} {xs : Nat → Int32} {S : Nat → pm_E} {n oc c m pic i k : Nat} {sl : Int32} {en : Int64} {so : Nat → Int32} {P : PG} {X : XT} {s : Int64}
/-- 0: it can go on; 1: an end; 2: stuck -/
noncomputable def srt (P : PG) (pic : Nat) (D : Nat → Nat) : Nat := @ite _ (∃ x, x < pH P ∧ mayP P pic D x) (Classical.propDecidable _) 0 (@ite _ (endP P D) (Classical.propDecidable _) 1 2)
theorem srt_0 {D : Nat → Nat} (h : ∃ x, x < pH P ∧ mayP P pic D x) : srt P pic D = 0 := if_pos h
theorem srt_1 {D : Nat → Nat} (h : ¬ ∃ x, x < pH P ∧ mayP P pic D x) (h1 : endP P D) : srt P pic D = 1 := (if_neg h).trans (if_pos h1)
theorem srt_2 {D : Nat → Nat} (h : ¬ ∃ x, x < pH P ∧ mayP P pic D x) (h1 : ¬ endP P D) : srt P pic D = 2 := (if_neg h).trans (if_neg h1)
def spb (P : PG) (pic : Nat) (D : Nat → Nat) : Prop := srt P pic D = 2 ∨ failP P D
theorem ox_so {T : Nat → pm_E} {f : Nat → Int32} (h : OX oc X k sl en so T) : OX oc X k sl en f (va_up T (oc + 4) (.inl (0, 2000, .inl f))) := by
  obtain ⟨fo, og, mv, fw, tb, ce, ⟨os, k0, o0, o1, o2, o3, o4, o5, o6, o7, o8, o9, o10, k1, k2, k3, k4, k5, k6, k7⟩, h⟩ := h
  exact ⟨fo, og, mv, fw, tb, ce, ⟨os, (u_ne (by omega)).trans k0, o0, o1, o2, o3, o4, o5, o6, o7, o8, o9, o10, (u_ne (by omega)).trans k1, (u_ne (by omega)).trans k2, (u_ne (by omega)).trans k3, u_eq, (u_ne (by omega)).trans k5, (u_ne (by omega)).trans k6, (u_ne (by omega)).trans k7⟩, h⟩
theorem ox_sl {T : Nat → pm_E} {os : List Value} {v : Int32} (h : OX oc X k sl en so T) (e : T oc = .inr (5, os)) : OX oc X k v en so (va_up T oc (.inr (5, os.set 2 (.int v)))) := by
  obtain ⟨fo, og, mv, fw, tb, ce, ⟨os', k0, o0, o1, o2, o3, o4, o5, o6, o7, o8, o9, o10, k1, k2, k3, k4, k5, k6, k7⟩, h⟩ := h
  rw [e] at k0
  cases k0
  exact ⟨fo, og, mv, fw, tb, ce, ⟨_, u_eq, (os_ne (by decide)).trans o0, (os_ne (by decide)).trans o1, os_at o2, (os_ne (by decide)).trans o3, (os_ne (by decide)).trans o4, (os_ne (by decide)).trans o5, (os_ne (by decide)).trans o6, (os_ne (by decide)).trans o7, (os_ne (by decide)).trans o8, (os_ne (by decide)).trans o9, (os_ne (by decide)).trans o10, (u_ne (by omega)).trans k1, (u_ne (by omega)).trans k2, (u_ne (by omega)).trans k3, (u_ne (by omega)).trans k4, (u_ne (by omega)).trans k5, (u_ne (by omega)).trans k6, (u_ne (by omega)).trans k7⟩, h⟩
theorem ox_en {T : Nat → pm_E} {os : List Value} {v : Int64} (h : OX oc X k sl en so T) (e : T oc = .inr (5, os)) : OX oc X k sl v so (va_up T oc (.inr (5, os.set 3 (.long v)))) := by
  obtain ⟨fo, og, mv, fw, tb, ce, ⟨os', k0, o0, o1, o2, o3, o4, o5, o6, o7, o8, o9, o10, k1, k2, k3, k4, k5, k6, k7⟩, h⟩ := h
  rw [e] at k0
  cases k0
  exact ⟨fo, og, mv, fw, tb, ce, ⟨_, u_eq, (os_ne (by decide)).trans o0, (os_ne (by decide)).trans o1, (os_ne (by decide)).trans o2, os_at o3, (os_ne (by decide)).trans o4, (os_ne (by decide)).trans o5, (os_ne (by decide)).trans o6, (os_ne (by decide)).trans o7, (os_ne (by decide)).trans o8, (os_ne (by decide)).trans o9, (os_ne (by decide)).trans o10, (u_ne (by omega)).trans k1, (u_ne (by omega)).trans k2, (u_ne (by omega)).trans k3, (u_ne (by omega)).trans k4, (u_ne (by omega)).trans k5, (u_ne (by omega)).trans k6, (u_ne (by omega)).trans k7⟩, h⟩
theorem ox_os {T : Nat → pm_E} (h : OX oc X k sl en so T) : ∃ os : List Value, T oc = .inr (5, os) ∧ os[0]? = some (.int (nI (xN X))) ∧ os[1]? = some (.int (nI (spv X))) ∧ os[2]? = some (.int sl) ∧ os[3]? = some (.long en) ∧ os[4]? = some (.ref (oc + 1)) ∧ os[7]? = some (.ref (oc + 4)) ∧ T (oc + 4) = .inl (0, 2000, .inl so) ∧ ∃ fo : Nat → Int64, T (oc + 1) = .inl (1, 2000, .inr (.inl fo)) ∧ ∀ j, j < xN X → e_D (fo j) = xS X j := by
  obtain ⟨fo, og, mv, fw, tb, ce, ⟨os, k0, o0, o1, o2, o3, o4, o5, o6, o7, o8, o9, o10, k1, k2, k3, k4, k5, k6, k7⟩, h⟩ := h
  exact ⟨os, k0, o0, o1, o2, o3, o4, o7, k4, fo, k1, h.2.1⟩
theorem bt_1sh {a q : Nat} (ha : a < 64) (hq : q < 64) : e_bt ((1 : Int64) <<< ((nI a).toInt64 &&& 63)) q = decide (q = a) := by
  have h1 : ∀ j : Fin 64, e_bt 1 j.val = decide (j.val = 0) := by decide +kernel
  rw [e_bt_shl _ a ha]
  by_cases c : q < a
  · have : ¬ q = a := by omega
    simp [c, this]
  · rw [h1 ⟨q - a, by omega⟩]
    have : (q - a = 0) ↔ (q = a) := by omega
    simp [hq, c, this]
/-- the ends' bits, of one more end -/
def enP (D : Nat → Nat) (k : Nat) (q : Nat) : Prop := ∃ p, p < k ∧ q = 10 * p + D (12 + p)
set_option maxHeartbeats 4000000 in
theorem o_note (hn : oc + 8 ≤ n) (hO : OX oc X k sl en so S) (h9 : ∀ p, p < 4 → e_D s (12 + p) ≤ 9) : PM (j_SL L) (j_SV xs) j_EX mm_X7_noteEnd [.ref oc, .long s] S n (fun r S' n' => r = none ∧ n = n' ∧ frO oc S S' ∧ ∃ en', OX oc X k sl en' so S' ∧ ∀ q, q < 64 → (e_bt en' q = true ↔ e_bt en q = true ∨ enP (e_D s) 4 q)) := by
  change PQ (j_SL L) (j_SV xs) j_EX mm_X7_noteEnd 0 [.ref oc, .long s, pm_un, pm_un] [] S n 0 0 _
  have key : ∀ d p : Nat, p + d = 4 → ∀ (T : Nat → pm_E) (e1 : Int64), frO oc S T → OX oc X k sl e1 so T → (∀ q, q < 64 → (e_bt e1 q = true ↔ e_bt en q = true ∨ enP (e_D s) p q)) → PQ (j_SL L) (j_SV xs) j_EX mm_X7_noteEnd 2 [.ref oc, .long s, pm_un, .int (nI p)] [] T n 0 0 (fun r S' n' => r = none ∧ n = n' ∧ frO oc S S' ∧ ∃ en', OX oc X k sl en' so S' ∧ ∀ q, q < 64 → (e_bt en' q = true ↔ e_bt en q = true ∨ enP (e_D s) 4 q)) := by
    intro d
    induction d with
    | zero =>
      intro p hp T e1 eT hT hb
      have e : p = 4 := by omega
      subst e
      refine q_iload_n rfl rfl rfl ?_
      refine q_iconst rfl rfl ?_
      refine q_icge rfl rfl (fun _ => ?_) (fun h => absurd (by decide) h)
      exact q_ret rfl rfl ⟨rfl, rfl, eT, e1, hT, hb⟩
    | succ d ih =>
      intro p hp T e1 eT hT hb
      have hp4 : p < 4 := by omega
      have hv := h9 p hp4
      obtain ⟨os, k0, o0, o1, o2, o3, o4, o7, k4, -⟩ := ox_os hT
      refine q_iload_n rfl rfl rfl ?_
      refine q_iconst rfl rfl ?_
      refine q_icge rfl rfl (fun h => absurd h (nI_ge (a := p) (b := 4) hp4 (by decide))) (fun _ => ?_)
      refine q_aload_n rfl rfl rfl ?_
      refine q_dupr rfl rfl ?_
      refine q_getf rfl rfl (by omega) k0 o3 ?_
      refine q_lconst rfl rfl ?_
      refine q_bipush rfl rfl ?_
      refine q_iload_n rfl rfl rfl ?_
      refine q_imul rfl rfl (q_tn (z := nI (10 * p)) (by rw [show (10 : Int32) = nI 10 from rfl, pk_mul]) ?_)
      refine q_lload_n rfl rfl rfl ?_
      refine q_iload_n rfl rfl rfl ?_
      refine q_cS rfl rfl (Or.inl rfl) rfl rfl trivial rfl rfl rfl rfl rfl (b_place hp4) ?_
      rintro r _ _ ⟨rfl, rfl, rfl⟩
      show PQ (j_SL L) (j_SV xs) j_EX mm_X7_noteEnd 22 _ [.int (nI (e_D s (12 + p))), .int (nI (10 * p)), .long 1, .long e1, .ref oc] T n 0 0 _
      refine q_iadd rfl rfl (q_tn (z := nI (10 * p + e_D s (12 + p))) (nI_add _ _) ?_)
      refine q_lshl rfl rfl ?_
      refine q_lor rfl rfl ?_
      refine q_putf rfl rfl (by omega) k0 (os_len o3) rfl trivial ?_
      refine q_inc3 rfl rfl rfl rfl ?_
      refine q_goto rfl ?_
      rw [show nI p + 1 = nI (p + 1) from nI_add p 1]
      refine ih (p + 1) (by omega) _ _ (fun k hk => (u_ne (by omega)).trans (eT k hk)) (ox_en hT k0) (fun q hq => ?_)
      rw [e_bt_or, Bool.or_eq_true, hb q hq, bt_1sh (by omega) hq, decide_eq_true_eq]
      constructor
      · rintro ((h | ⟨p', h1, h2⟩) | h)
        · exact Or.inl h
        · exact Or.inr ⟨p', by omega, h2⟩
        · exact Or.inr ⟨p, by omega, h⟩
      · rintro (h | ⟨p', h1, h2⟩)
        · exact Or.inl (Or.inl h)
        · by_cases e : p' = p
          · rw [e] at h2
            exact Or.inr h2
          · exact Or.inl (Or.inr ⟨p', by omega, h2⟩)
  refine q_iconst rfl rfl ?_
  refine q_ist3n rfl rfl rfl rfl ?_
  exact key 4 0 rfl S en (fun _ _ => rfl) hO (fun q _ => ⟨Or.inl, fun h => h.elim id (fun ⟨p, h1, _⟩ => absurd h1 (by omega))⟩)
/-- what lookAt leaves -/
def lkK (oc : Nat) (P : PG) (pic : Nat) (X : XT) (i : Nat) (sl : Int32) (en : Int64) (so : Nat → Int32) (S : Nat → pm_E) (n : Nat) : q_K := fun r S' n' => r = none ∧ n = n' ∧ frO oc S S' ∧ ∃ (sl' : Int32) (en' : Int64), OX oc (xRow P pic X i) (3 * i + 3) sl' en' (upd so i (nI (srt P pic (xS X i)))) S' ∧ ((spb P pic (xS X i) ∧ sl' = 1) ∨ (¬ spb P pic (xS X i) ∧ sl' = sl)) ∧ ∀ q, q < 64 → (e_bt en' q = true ↔ e_bt en q = true ∨ (srt P pic (xS X i) = 1 ∧ enP (xS X i) 4 q))
set_option maxHeartbeats 4000000 in
theorem o_look (hW : WFP P) (hc : c + 6 ≤ n) (hm : m < n) (hn : oc + 8 ≤ n) (hd1 : c + 6 ≤ oc ∨ oc + 8 ≤ c) (hd2 : m < oc ∨ oc + 8 ≤ m) (hj : JPc c P S) (hJ : JMc m c pic S) (hp5 : pic < 5) (hX : WX P pic X) (hpn : xPN X) (hi : i < xN X) (hO : OX oc X (3 * i) sl en so S) (hsl : sl = 0 ∨ sl = 1) : PM (j_SL L) (j_SV xs) j_EX mm_X7_lookAt [.ref oc, .ref m, .int (nI i)] S n (lkK oc P pic X i sl en so S n) := by
  have hH := hW.2.1
  have hi2 := hX.2.1
  obtain ⟨os, k0, o0, o1, o2, o3, o4, o7, k4, fo, k1, hfo⟩ := ox_os hO
  have hs := hfo i hi
  have hwf : WFD P pic (e_D (fo i)) := by rw [hs]; exact hX.2.2.1 i hi
  generalize hs9 : fo i = s at hs hwf
  obtain ⟨gs, kM, g0, g1⟩ := hJ
  change PQ (j_SL L) (j_SV xs) j_EX mm_X7_lookAt 0 [.ref oc, .ref m, .int (nI i), pm_un, pm_un, pm_un, pm_un, pm_un, pm_un, pm_un] [] S n 0 0 _
  refine q_aload_n rfl rfl rfl ?_
  refine q_getf rfl rfl (by omega) k0 o4 ?_
  refine q_iload_n rfl rfl rfl ?_
  refine q_lald rfl rfl (by omega) k1 (q_inN (by omega) (by decide)) ?_
  rw [nI_clamp (by omega), hs9]
  refine q_lst3n rfl rfl rfl rfl ?_
  refine q_aload_n rfl rfl rfl ?_
  refine q_aload_n rfl rfl rfl ?_
  refine q_lload_n rfl rfl rfl ?_
  refine q_cV rfl rfl (Or.inl rfl) rfl rfl rfl rfl hm kM trivial rfl rfl rfl rfl rfl (m_ables hW hc hm hj ⟨gs, kM, g0, g1⟩ hp5) ?_
  rintro r _ _ ⟨rfl, rfl, ba, rfl, hba, hba0⟩
  show PQ (j_SL L) (j_SV xs) j_EX mm_X7_lookAt 13 _ [.int (nI (bm ba)), .ref m] S n 0 0 _
  refine q_lload_n rfl rfl rfl ?_
  refine q_cS rfl rfl (Or.inl rfl) rfl rfl trivial rfl rfl rfl rfl rfl b_last ?_
  rintro r _ _ ⟨rfl, rfl, rfl⟩
  show PQ (j_SL L) (j_SV xs) j_EX mm_X7_lookAt 17 _ [.int (nI (e_D s 19) - 1), .int (nI (bm ba)), .ref m] S n 0 0 _
  refine q_cV rfl rfl (Or.inl rfl) rfl rfl rfl rfl hm kM trivial rfl rfl rfl rfl rfl (m_chosen (D := e_D s) hW hc hm hj ⟨gs, kM, g0, g1⟩ hp5 hwf hba hba0) ?_
  rintro r _ _ ⟨rfl, rfl, b, rfl, hb, hb0⟩
  show PQ (j_SL L) (j_SV xs) j_EX mm_X7_lookAt 20 [.ref oc, .ref m, .int (nI i), .long s, pm_un, pm_un, pm_un, pm_un, pm_un, pm_un] [.int (nI (bm b))] S n 0 0 _
  refine q_ist5 rfl rfl rfl rfl ?_
  refine q_iconst rfl rfl ?_
  refine q_ist6 rfl rfl rfl rfl ?_
  rw [hs] at hb
  refine o_hands hW hc hm hn hd1 hd2 hj ⟨gs, kM, g0, g1⟩ hp5 hX hpn hi hs hO hb hb0 (fun T w7 w8 w9 eT hT => ?_)
  have hjT := JPc_fr hd1 hj eT
  have hJT := JMc_fr hd2 ⟨gs, kM, g0, g1⟩ eT
  have kMT := (eT m hd2).trans kM
  have hany : nI (bm b) = 0 ↔ ¬ ∃ x, x < pH P ∧ mayP P pic (xS X i) x := by
    constructor
    · rintro h ⟨x, hx, hmy⟩
      have := bm_0 h x (by omega)
      rw [(hb x hx).mpr hmy] at this
      cases this
    · intro h
      have hz : ∀ x, b x = false := fun x => by
        by_cases hx : x < pH P
        · cases e : b x
          · rfl
          · exact absurd ⟨x, hx, (hb x hx).mp e⟩ h
        · exact hb0 x (by omega)
      unfold bm
      rw [hz 0, hz 1, hz 2]
      rfl
  obtain ⟨os2, t0, p0, p1, p2, p3, p4, p7, t4, -⟩ := ox_os hT
  have st : ∀ v : Nat, v = srt P pic (xS X i) → PQ (j_SL L) (j_SV xs) j_EX mm_X7_lookAt 116 [.ref oc, .ref m, .int (nI i), .long s, pm_un, .int (nI (bm b)), .int (nI 3), w7, w8, w9] [.int (nI v), .int (nI i), .ref (oc + 4)] T n 0 0 (lkK oc P pic X i sl en so S n) := by
    rintro v rfl
    have hv3 : srt P pic (xS X i) < 3 := by
      by_cases h : ∃ x, x < pH P ∧ mayP P pic (xS X i) x
      · rw [srt_0 h]
        decide
      · by_cases h1 : endP P (xS X i)
        · rw [srt_1 h h1]
          decide
        · rw [srt_2 h h1]
          decide
    refine q_iast rfl rfl (by omega) t4 (q_inN (by omega) (by decide)) ?_
    rw [nI_clamp (by omega)]
    have hT1 := ox_so (f := upd so i (nI (srt P pic (xS X i)))) hT
    have eT1 : frO oc S (va_up T (oc + 4) (.inl (0, 2000, .inl (upd so i (nI (srt P pic (xS X i))))))) := fun k hk => (u_ne (by omega)).trans (eT k hk)
    generalize va_up T (oc + 4) (.inl (0, 2000, .inl (upd so i (nI (srt P pic (xS X i)))))) = T1 at hT1 eT1 ⊢
    obtain ⟨os3, u0, v0, v1, v2, v3, v4, v7, u4, -⟩ := ox_os hT1
    have hjT1 := JPc_fr hd1 hj eT1
    have hJT1 := JMc_fr hd2 ⟨gs, kM, g0, g1⟩ eT1
    have kMT1 := (eT1 m hd2).trans kM
    have soi : upd so i (nI (srt P pic (xS X i))) i = nI (srt P pic (xS X i)) := u32_at
    -- what is behind the spoiled's store
    have fin : ∀ v : Int32, ((spb P pic (xS X i) ∧ v = 1) ∨ (¬ spb P pic (xS X i) ∧ v = sl)) → PQ (j_SL L) (j_SV xs) j_EX mm_X7_lookAt 149 [.ref oc, .ref m, .int (nI i), .long s, pm_un, .int (nI (bm b)), .int (nI 3), w7, w8, w9] [] (va_up T1 oc (.inr (5, os3.set 2 (.int v)))) n 0 0 (lkK oc P pic X i sl en so S n) := by
      intro v hv
      have hT2 := ox_sl (v := v) hT1 u0
      have eT2 : frO oc S (va_up T1 oc (.inr (5, os3.set 2 (.int v)))) := fun k hk => (u_ne (by omega)).trans (eT1 k hk)
      generalize va_up T1 oc (.inr (5, os3.set 2 (.int v))) = T2 at hT2 eT2 ⊢
      obtain ⟨os4, y0, z0, z1, z2, z3, z4, z7, y4, -⟩ := ox_os hT2
      refine q_aload_n rfl rfl rfl ?_
      refine q_getf rfl rfl (by omega) y0 z7 ?_
      refine q_iload_n rfl rfl rfl ?_
      refine q_iald rfl rfl (by omega) y4 (q_inN (by omega) (by decide)) (q_tn (z := nI (srt P pic (xS X i))) (by rw [nI_clamp (by omega)]; exact soi) ?_)
      refine q_iconst rfl rfl ?_
      refine q_icne rfl rfl (fun h => ?_) (fun h => ?_)
      · have h1 := (m_eq (b := 1) (by omega) (by decide)).mp h
        refine q_aload_n rfl rfl rfl ?_
        refine q_lload_n rfl rfl rfl ?_
        refine q_cV rfl rfl (Or.inl rfl) rfl rfl rfl rfl (by omega) y0 trivial rfl rfl rfl rfl rfl (o_note hn hT2 hwf.2.2.1) ?_
        rintro r T3 n9 ⟨rfl, rfl, eT3, en', hT3, hen⟩
        show PQ (j_SL L) (j_SV xs) j_EX mm_X7_lookAt 164 _ [] T3 n 0 0 _
        refine q_ret rfl rfl ⟨rfl, rfl, frO_tr eT2 eT3, v, en', hT3, hv, fun q hq => ?_⟩
        rw [hen q hq, hs]
        exact ⟨fun h => h.elim Or.inl (fun h => Or.inr ⟨h1, h⟩), fun h => h.elim Or.inl (fun h => Or.inr h.2)⟩
      · refine q_ret rfl rfl ⟨rfl, rfl, eT2, v, en, hT2, hv, fun q _ => ⟨Or.inl, fun h9 => h9.elim id (fun h9 => absurd (by rw [h9.1]; rfl) h)⟩⟩
    have orv : ∀ w : Int32, (w = 1 ∧ spb P pic (xS X i)) ∨ (w = 0 ∧ ¬ spb P pic (xS X i)) → PQ (j_SL L) (j_SV xs) j_EX mm_X7_lookAt 145 [.ref oc, .ref m, .int (nI i), .long s, pm_un, .int (nI (bm b)), .int (nI 3), w7, w8, w9] [.int w, .int sl, .ref oc] T1 n 0 0 (lkK oc P pic X i sl en so S n) := by
      intro w hw
      rcases hw with ⟨rfl, hw⟩ | ⟨rfl, hw⟩
      · refine q_ior rfl rfl (q_tn (z := 1) (by rcases hsl with rfl | rfl <;> rfl) ?_)
        refine q_putf rfl rfl (by omega) u0 (os_len v2) rfl rfl ?_
        exact fin 1 (Or.inl ⟨hw, rfl⟩)
      · rcases hsl with rfl | rfl
        · refine q_ior rfl rfl (q_tn (z := 0) rfl ?_)
          refine q_putf rfl rfl (by omega) u0 (os_len v2) rfl rfl ?_
          exact fin 0 (Or.inr ⟨hw, rfl⟩)
        · refine q_ior rfl rfl (q_tn (z := 1) rfl ?_)
          refine q_putf rfl rfl (by omega) u0 (os_len v2) rfl rfl ?_
          exact fin 1 (Or.inr ⟨hw, rfl⟩)
    have s140 : spb P pic (xS X i) → PQ (j_SL L) (j_SV xs) j_EX mm_X7_lookAt 140 [.ref oc, .ref m, .int (nI i), .long s, pm_un, .int (nI (bm b)), .int (nI 3), w7, w8, w9] [.int sl, .ref oc] T1 n 0 0 (lkK oc P pic X i sl en so S n) := by
      intro h
      refine q_iconst rfl rfl ?_
      refine q_goto rfl ?_
      exact orv 1 (Or.inl ⟨rfl, h⟩)
    refine q_aload_n rfl rfl rfl ?_
    refine q_dupr rfl rfl ?_
    refine q_getf rfl rfl (by omega) u0 v2 ?_
    refine q_aload_n rfl rfl rfl ?_
    refine q_getf rfl rfl (by omega) u0 v7 ?_
    refine q_iload_n rfl rfl rfl ?_
    refine q_iald rfl rfl (by omega) u4 (q_inN (by omega) (by decide)) (q_tn (z := nI (srt P pic (xS X i))) (by rw [nI_clamp (by omega)]; exact soi) ?_)
    refine q_iconst rfl rfl ?_
    refine q_iceq rfl rfl (fun h => s140 (Or.inl ((m_eq (b := 2) (by omega) (by decide)).mp h))) (fun h2 => ?_)
    have h2' : ¬ srt P pic (xS X i) = 2 := fun e => h2 (by rw [e]; rfl)
    refine q_aload_n rfl rfl rfl ?_
    refine q_lload_n rfl rfl rfl ?_
    refine q_cV rfl rfl (Or.inl rfl) rfl rfl rfl rfl hm kMT1 trivial rfl rfl rfl rfl rfl (m_fail hW hc hm hjT1 hJT1 hp5) ?_
    rintro r _ _ ⟨rfl, rfl, hr⟩
    rw [hs] at hr
    rcases hr with ⟨hf, rfl⟩ | ⟨hf, rfl⟩
    · show PQ (j_SL L) (j_SV xs) j_EX mm_X7_lookAt 137 _ [.int 1, .int sl, .ref oc] T1 n 0 0 _
      exact q_ifeq rfl rfl (fun h => absurd h (by decide)) (fun _ => s140 (Or.inr hf))
    · show PQ (j_SL L) (j_SV xs) j_EX mm_X7_lookAt 137 _ [.int 0, .int sl, .ref oc] T1 n 0 0 _
      refine q_ifeq rfl rfl (fun _ => ?_) (fun h => absurd rfl h)
      refine q_iconst rfl rfl ?_
      exact orv 0 (Or.inr ⟨rfl, fun h => h.elim h2' hf⟩)
  refine q_aload_n rfl rfl rfl ?_
  refine q_getf rfl rfl (by omega) t0 p7 ?_
  refine q_iload_n rfl rfl rfl ?_
  refine q_iload rfl rfl rfl ?_
  refine q_ifeq rfl rfl (fun h => ?_) (fun h => ?_)
  · have hno := hany.mp h
    refine q_aload_n rfl rfl rfl ?_
    refine q_lload_n rfl rfl rfl ?_
    refine q_cV rfl rfl (Or.inl rfl) rfl rfl rfl rfl hm kMT trivial rfl rfl rfl rfl rfl (m_end hW hc hm hjT hJT hp5) ?_
    rintro r _ _ ⟨rfl, rfl, hr⟩
    rw [hs] at hr
    rcases hr with ⟨he, rfl⟩ | ⟨he, rfl⟩
    · show PQ (j_SL L) (j_SV xs) j_EX mm_X7_lookAt 108 _ [.int 1, .int (nI i), .ref (oc + 4)] T n 0 0 _
      refine q_ifeq rfl rfl (fun h => absurd h (by decide)) (fun _ => ?_)
      refine q_iconst rfl rfl ?_
      refine q_goto rfl ?_
      exact st 1 (srt_1 hno he).symm
    · show PQ (j_SL L) (j_SV xs) j_EX mm_X7_lookAt 108 _ [.int 0, .int (nI i), .ref (oc + 4)] T n 0 0 _
      refine q_ifeq rfl rfl (fun _ => ?_) (fun h => absurd rfl h)
      refine q_iconst rfl rfl ?_
      exact st 2 (srt_2 hno he).symm
  · have hy : ∃ x, x < pH P ∧ mayP P pic (xS X i) x := Classical.byContradiction (fun h9 => h (hany.mpr h9))
    refine q_iconst rfl rfl ?_
    refine q_goto rfl ?_
    exact st 0 (srt_0 hy).symm
end EX
