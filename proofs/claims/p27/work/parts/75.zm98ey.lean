/-! the class's Orders: clear and explore -/
section EY
variable {L : Nat} {xs : Nat → Int32} {S : Nat → pm_E} {n oc c m pic i k N sp : Nat} {sl : Int32} {en : Int64} {fo : Nat → Int64} {og mv so fw tb ce : Nat → Int32} {P : PG} {X : XT} {s : Int64}
set_option maxHeartbeats 4000000 in
theorem o_clear (hn : oc + 8 ≤ n) (hO : OCo oc N sp sl en fo og mv so fw tb ce S) (hN : N ≤ 2000) (hT : HTb N fo tb ce) : PM (j_SL L) (j_SV xs) j_EX mm_X7_clear [.ref oc] S n (fun r S' n' => r = none ∧ n = n' ∧ frO oc S S' ∧ ∃ tb', (∀ c, c < 4096 → tb' c = 0) ∧ OCo oc 0 0 0 0 fo og mv so fw tb' ce S') := by
  obtain ⟨os, k0, o0, o1, o2, o3, o4, o5, o6, o7, o8, o9, o10, k1, k2, k3, k4, k5, k6, k7⟩ := hO
  change PQ (j_SL L) (j_SV xs) j_EX mm_X7_clear 0 [.ref oc, pm_un] [] S n 0 0 _
  have key : ∀ q s : Nat, s + q = N → ∀ (T : Nat → pm_E) (tb1 : Nat → Int32), (∀ k, k ≠ oc + 6 → T k = S k) → T (oc + 6) = .inl (0, 4096, .inl tb1) → (∀ c, c < 4096 → tb1 c = 0 ∨ ∃ j, s ≤ j ∧ j < N ∧ ce j = nI c) → PQ (j_SL L) (j_SV xs) j_EX mm_X7_clear 2 [.ref oc, .int (nI s)] [] T n 0 0 (fun r S' n' => r = none ∧ n = n' ∧ frO oc S S' ∧ ∃ tb', (∀ c, c < 4096 → tb' c = 0) ∧ OCo oc 0 0 0 0 fo og mv so fw tb' ce S') := by
    intro q
    induction q with
    | zero =>
      intro s hs T tb1 eT t6 hz
      have h0 := (eT oc (by omega)).trans k0
      refine q_iload_n rfl rfl rfl ?_
      refine q_aload_n rfl rfl rfl ?_
      refine q_getf rfl rfl (by omega) h0 o0 ?_
      refine q_icge rfl rfl (fun _ => ?_) (fun h => absurd ((m_le (by omega) (by omega)).mpr (by omega)) h)
      refine q_aload_n rfl rfl rfl ?_
      refine q_iconst rfl rfl ?_
      refine q_putf rfl rfl (by omega) h0 (os_len o0) rfl trivial ?_
      refine q_aload_n rfl rfl rfl ?_
      refine q_iconst rfl rfl ?_
      refine q_putf rfl rfl (by omega) u_eq (by rw [List.length_set]; exact os_len o1) rfl rfl ?_
      refine q_aload_n rfl rfl rfl ?_
      refine q_iconst rfl rfl ?_
      refine q_putf rfl rfl (by omega) u_eq (by rw [List.length_set, List.length_set]; exact os_len o2) rfl rfl ?_
      refine q_aload_n rfl rfl rfl ?_
      refine q_lconst rfl rfl ?_
      refine q_putf rfl rfl (by omega) u_eq (by rw [List.length_set, List.length_set, List.length_set]; exact os_len o3) rfl trivial ?_
      have w0 := os_at (v := .int 0) o0
      have a1 := (os_ne (i := 0) (v := .int 0) (show 0 ≠ 1 by decide)).trans o1
      have a2 := (os_ne (i := 0) (v := .int 0) (show 0 ≠ 2 by decide)).trans o2
      have a3 := (os_ne (i := 0) (v := .int 0) (show 0 ≠ 3 by decide)).trans o3
      have b1 := os_at (v := .int 0) a1
      have b2 := (os_ne (i := 1) (v := .int 0) (show 1 ≠ 2 by decide)).trans a2
      have b3 := (os_ne (i := 1) (v := .int 0) (show 1 ≠ 3 by decide)).trans a3
      have c2 := os_at (v := .int 0) b2
      have c3 := (os_ne (i := 2) (v := .int 0) (show 2 ≠ 3 by decide)).trans b3
      have d3 := os_at (v := .long 0) c3
      have hi : ∀ j, 4 ≤ j → ((((os.set 0 (.int 0)).set 1 (.int 0)).set 2 (.int 0)).set 3 (.long 0))[j]? = os[j]? := fun j hj => by
        rw [os_ne (by omega), os_ne (by omega), os_ne (by omega), os_ne (by omega)]
      have uu : ∀ k, k ≠ oc → va_up (va_up (va_up (va_up T oc (.inr (5, os.set 0 (.int 0)))) oc (.inr (5, (os.set 0 (.int 0)).set 1 (.int 0)))) oc (.inr (5, ((os.set 0 (.int 0)).set 1 (.int 0)).set 2 (.int 0)))) oc (.inr (5, (((os.set 0 (.int 0)).set 1 (.int 0)).set 2 (.int 0)).set 3 (.long 0))) k = T k := fun k hk => (u_ne hk).trans ((u_ne hk).trans ((u_ne hk).trans (u_ne hk)))
      refine q_ret rfl rfl ⟨rfl, rfl, fun k hk => (uu k (by omega)).trans (eT k (by omega)), tb1, fun c hc => ?_, ?_⟩
      · rcases hz c hc with h | ⟨j, h1, h2, -⟩
        · exact h
        · omega
      · exact ⟨_, u_eq, (os_ne (by decide)).trans ((os_ne (by decide)).trans ((os_ne (by decide)).trans w0)), (os_ne (by decide)).trans ((os_ne (by decide)).trans b1), (os_ne (by decide)).trans c2, d3, (hi 4 (by decide)).trans o4, (hi 5 (by decide)).trans o5, (hi 6 (by decide)).trans o6, (hi 7 (by decide)).trans o7, (hi 8 (by decide)).trans o8, (hi 9 (by decide)).trans o9, (hi 10 (by decide)).trans o10, (uu _ (by omega)).trans ((eT _ (by omega)).trans k1), (uu _ (by omega)).trans ((eT _ (by omega)).trans k2), (uu _ (by omega)).trans ((eT _ (by omega)).trans k3), (uu _ (by omega)).trans ((eT _ (by omega)).trans k4), (uu _ (by omega)).trans ((eT _ (by omega)).trans k5), (uu _ (by omega)).trans t6, (uu _ (by omega)).trans ((eT _ (by omega)).trans k7)⟩
    | succ q ih =>
      intro s hsq T tb1 eT t6 hz
      have hsN : s < N := by omega
      have h0 := (eT oc (by omega)).trans k0
      obtain ⟨c1, hc1, e1, -⟩ := hT.1 s hsN
      refine q_iload_n rfl rfl rfl ?_
      refine q_aload_n rfl rfl rfl ?_
      refine q_getf rfl rfl (by omega) h0 o0 ?_
      refine q_icge rfl rfl (fun h => absurd ((m_le (by omega) (by omega)).mp h) (by omega)) (fun _ => ?_)
      refine q_aload_n rfl rfl rfl ?_
      refine q_getf rfl rfl (by omega) h0 o9 ?_
      refine q_aload_n rfl rfl rfl ?_
      refine q_getf rfl rfl (by omega) h0 o10 ?_
      refine q_iload_n rfl rfl rfl ?_
      refine q_iald rfl rfl (by omega) ((eT (oc + 7) (by omega)).trans k7) (q_inN (by omega) (by decide)) (q_tn (z := nI c1) (by rw [nI_clamp (by omega)]; exact e1) ?_)
      refine q_iconst rfl rfl ?_
      refine q_iast rfl rfl (by omega) t6 (q_inN (by omega) (by decide)) ?_
      rw [nI_clamp (by omega)]
      refine q_inc1 rfl rfl rfl rfl ?_
      refine q_goto rfl ?_
      rw [show nI s + 1 = nI (s + 1) from nI_add s 1]
      refine ih (s + 1) (by omega) _ _ (fun k hk => (u_ne hk).trans (eT k hk)) u_eq (fun c hc => ?_)
      by_cases e : c = c1
      · rw [e]
        exact Or.inl u32_at
      · rw [u32_ot e]
        rcases hz c hc with h | ⟨j, h1, h2, h3⟩
        · exact Or.inl h
        · refine Or.inr ⟨j, ?_, h2, h3⟩
          by_cases ej : j = s
          · rw [ej, e1] at h3
            exact absurd (nI_inj (by omega) (by omega) h3).symm e
          · omega
  refine q_iconst rfl rfl ?_
  refine q_ist1n rfl rfl rfl rfl ?_
  exact key N 0 (by omega) S tb (fun _ _ => rfl) k6 (fun c hc => (hT.2.1 c hc).elim Or.inl (fun ⟨j, h1, _, h3⟩ => Or.inr ⟨j, by omega, h1, h3⟩))
/-- what is noted of the states looked at -/
def RW (P : PG) (pic : Nat) (X : XT) (k : Nat) (sl : Int32) (en : Int64) (so : Nat → Int32) : Prop := (∀ j, j < k → so j = nI (srt P pic (xS X j))) ∧ ((sl = 1 ∧ ∃ j, j < k ∧ spb P pic (xS X j)) ∨ (sl = 0 ∧ ¬ ∃ j, j < k ∧ spb P pic (xS X j))) ∧ ∀ q, q < 64 → (e_bt en q = true ↔ ∃ j, j < k ∧ srt P pic (xS X j) = 1 ∧ enP (xS X j) 4 q)
theorem wx_all (hW : WFP P) : ∀ k, WX P pic (xAll P pic k) ∧ xPN (xAll P pic k) := by
  intro k
  induction k with
  | zero => exact ⟨wx_0 hW, fun h => by cases h⟩
  | succ k ih =>
    unfold xAll
    split
    · exact ih
    · rename_i h
      have hk : k < xN (xAll P pic k) := Classical.byContradiction (fun h9 => h (Or.inl (by omega)))
      obtain ⟨a, b, -, -⟩ := xt_all (x := 3) hW ih.1 ih.2 hk
      exact ⟨a, b⟩
theorem xall_s (hk : k < xN (xAll P pic k)) (hp : xP (xAll P pic k) = false) : xAll P pic (k + 1) = xRow P pic (xAll P pic k) k := by
  show (if xN (xAll P pic k) ≤ k ∨ xP (xAll P pic k) = true then xAll P pic k else xRow P pic (xAll P pic k) k) = _
  rw [if_neg]
  rintro (h | h)
  · omega
  · rw [hp] at h
    cases h
theorem xall_e (h : xN (xAll P pic k) ≤ k ∨ xP (xAll P pic k) = true) (d : Nat) : xAll P pic (k + d) = xAll P pic k := by
  induction d with
  | zero => rfl
  | succ d ih =>
    show (if xN (xAll P pic (k + d)) ≤ k + d ∨ xP (xAll P pic (k + d)) = true then xAll P pic (k + d) else xRow P pic (xAll P pic (k + d)) (k + d)) = _
    rw [ih, if_pos]
    rcases h with h | h
    · exact Or.inl (by omega)
    · exact Or.inr h
/-- what explore leaves: k states looked at -/
def exK (oc : Nat) (P : PG) (pic : Nat) (uo : Int32) (S : Nat → pm_E) (n : Nat) : q_K := fun r S' n' => r = none ∧ n = n' ∧ frO oc S S' ∧ ∃ (k : Nat) (sl : Int32) (en : Int64) (so : Nat → Int32), OX oc (xAll P pic k) (3 * k) sl en so S' ∧ k ≤ xN (xAll P pic k) ∧ RW P pic (xAll P pic k) k sl en so ∧ (xP (xAll P pic k) = true ∨ xN (xAll P pic k) ≤ k ∨ (uo = 1 ∧ sl = 1))
set_option maxHeartbeats 4000000 in
theorem o_expl {uo : Int32} (hW : WFP P) (hc : c + 6 ≤ n) (hm : m < n) (hn : oc + 8 ≤ n) (hd1 : c + 6 ≤ oc ∨ oc + 8 ≤ c) (hd2 : m < oc ∨ oc + 8 ≤ m) (hj : JPc c P S) (hJ : JMc m c pic S) (hp5 : pic < 5) (hO : OCo oc N sp sl en fo og mv so fw tb ce S) (hN : N ≤ 2000) (hT : HTb N fo tb ce) (huo : uo = 0 ∨ uo = 1) : PM (j_SL L) (j_SV xs) j_EX mm_X7_explore [.ref oc, .ref m, .int uo] S n (exK oc P pic uo S n) := by
  have hO0 := hO
  obtain ⟨os, k0, o0, o1, o2, o3, o4, o5, o6, o7, o8, o9, o10, k1, k2, k3, k4, k5, k6, k7⟩ := hO
  obtain ⟨gs, kM, g0, g1⟩ := hJ
  have hJ : JMc m c pic S := ⟨gs, kM, g0, g1⟩
  change PQ (j_SL L) (j_SV xs) j_EX mm_X7_explore 0 [.ref oc, .ref m, .int uo, pm_un] [] S n 0 0 _
  have loop : ∀ q k : Nat, k + q = 2000 → ∀ (T : Nat → pm_E) (sl : Int32) (en : Int64) (so : Nat → Int32), frO oc S T → OX oc (xAll P pic k) (3 * k) sl en so T → k ≤ xN (xAll P pic k) → RW P pic (xAll P pic k) k sl en so → xP (xAll P pic k) = false → PQ (j_SL L) (j_SV xs) j_EX mm_X7_explore 17 [.ref oc, .ref m, .int uo, .int (nI k)] [] T n 0 0 (exK oc P pic uo S n) := by
    intro q
    induction q with
    | zero =>
      intro k hk T sl en so eT hT hkN hR hp
      have h2 := (wx_all (pic := pic) hW k).1.2.1
      have e : k = 2000 := by omega
      refine q_iload_n rfl rfl rfl ?_
      refine q_sipush rfl rfl ?_
      refine q_icge rfl rfl (fun _ => ?_) (fun h => absurd ((m_le (a := 2000) (by decide) (by omega)).mpr (by omega)) h)
      exact q_ret rfl rfl ⟨rfl, rfl, eT, k, sl, en, so, hT, hkN, hR, Or.inr (Or.inl (by omega))⟩
    | succ q ih =>
      intro k hkq T sl en so eT hT hkN hR hp
      have hk2 : k < 2000 := by omega
      obtain ⟨hWX, hPN⟩ := wx_all (pic := pic) hW k
      have hjT := JPc_fr hd1 hj eT
      have hJT := JMc_fr hd2 hJ eT
      obtain ⟨os, t0, p0, p1, p2, -⟩ := ox_os hT
      have hNb := hWX.2.1
      refine q_iload_n rfl rfl rfl ?_
      refine q_sipush rfl rfl ?_
      refine q_icge rfl rfl (fun h => absurd h (nI_ge (a := k) (b := 2000) hk2 (by decide))) (fun _ => ?_)
      refine q_iload_n rfl rfl rfl ?_
      refine q_aload_n rfl rfl rfl ?_
      refine q_getf rfl rfl (by omega) t0 p0 ?_
      refine q_icge rfl rfl (fun h => ?_) (fun h => ?_)
      · have hle := (m_le (by omega) (by omega)).mp h
        exact q_ret rfl rfl ⟨rfl, rfl, eT, k, sl, en, so, hT, hkN, hR, Or.inr (Or.inl hle)⟩
      have hlt : k < xN (xAll P pic k) := by
        rw [m_le (by omega) (by omega)] at h
        omega
      have hsl : sl = 0 ∨ sl = 1 := hR.2.1.elim (fun h => Or.inr h.1) (fun h => Or.inl h.1)
      refine q_aload_n rfl rfl rfl ?_
      refine q_aload_n rfl rfl rfl ?_
      refine q_iload_n rfl rfl rfl ?_
      refine q_cV rfl rfl (Or.inl rfl) rfl rfl rfl rfl (by omega) t0 trivial rfl rfl rfl rfl rfl (o_look hW hc hm hn hd1 hd2 hjT hJT hp5 hWX hPN hlt hT hsl) ?_
      rintro r T1 n9 ⟨rfl, rfl, eT1, sl', en', hT1, hsl', hen'⟩
      show PQ (j_SL L) (j_SV xs) j_EX mm_X7_explore 38 [.ref oc, .ref m, .int uo, .int (nI k)] [] T1 n 0 0 _
      have hX1 := xall_s hlt hp
      obtain ⟨-, -, hgrow, hsame⟩ := xt_all (x := 3) hW hWX hPN hlt
      rw [xSt_3, ← hX1] at hgrow hsame
      rw [← hX1] at hT1
      have hT1' : OX oc (xAll P pic (k + 1)) (3 * (k + 1)) sl' en' (upd so k (nI (srt P pic (xS (xAll P pic k) k)))) T1 := hT1
      have eT2 := frO_tr eT eT1
      have hR1 : RW P pic (xAll P pic (k + 1)) (k + 1) sl' en' (upd so k (nI (srt P pic (xS (xAll P pic k) k)))) := by
        refine ⟨fun j hj => ?_, ?_, fun q hq => ?_⟩
        · rw [hsame j (by omega)]
          by_cases e : j = k
          · rw [e, u32_at]
          · rw [u32_ot e]
            exact hR.1 j (by omega)
        · rcases hsl' with ⟨h1, h2⟩ | ⟨h1, h2⟩
          · exact Or.inl ⟨h2, k, by omega, by rw [hsame k hlt]; exact h1⟩
          · rcases hR.2.1 with ⟨h3, j, h4, h5⟩ | ⟨h3, h4⟩
            · exact Or.inl ⟨h2.trans h3, j, by omega, by rw [hsame j (by omega)]; exact h5⟩
            · refine Or.inr ⟨h2.trans h3, fun ⟨j, h5, h6⟩ => ?_⟩
              rw [hsame j (by omega)] at h6
              by_cases e : j = k
              · rw [e] at h6
                exact h1 h6
              · exact h4 ⟨j, by omega, h6⟩
        · rw [hen' q hq, hR.2.2 q hq]
          constructor
          · rintro (⟨j, h1, h2⟩ | h)
            · exact ⟨j, by omega, by rw [hsame j (by omega)]; exact h2⟩
            · exact ⟨k, by omega, by rw [hsame k hlt]; exact h⟩
          · rintro ⟨j, h1, h2⟩
            rw [hsame j (by omega)] at h2
            by_cases e : j = k
            · rw [e] at h2
              exact Or.inr h2
            · exact Or.inl ⟨j, by omega, h2⟩
      have hkN1 : k + 1 ≤ xN (xAll P pic (k + 1)) := by omega
      obtain ⟨os1, u0, v0, v1, v2, -⟩ := ox_os hT1'
      have stop : (xP (xAll P pic (k + 1)) = true ∨ (uo = 1 ∧ sl' = 1)) → PQ (j_SL L) (j_SV xs) j_EX mm_X7_explore 56 [.ref oc, .ref m, .int uo, .int (nI k)] [] T1 n 0 0 (exK oc P pic uo S n) := by
        intro h
        exact q_ret rfl rfl ⟨rfl, rfl, eT2, k + 1, sl', en', _, hT1', hkN1, hR1, h.elim Or.inl (fun h => Or.inr (Or.inr h))⟩
      have on : xP (xAll P pic (k + 1)) = false → PQ (j_SL L) (j_SV xs) j_EX mm_X7_explore 57 [.ref oc, .ref m, .int uo, .int (nI k)] [] T1 n 0 0 (exK oc P pic uo S n) := by
        intro h
        refine q_inc3 rfl rfl rfl rfl ?_
        refine q_goto rfl ?_
        rw [show nI k + 1 = nI (k + 1) from nI_add k 1]
        exact ih (k + 1) (by omega) T1 sl' en' _ eT2 hT1' hkN1 hR1 h
      refine q_aload_n rfl rfl rfl ?_
      refine q_getf rfl rfl (by omega) u0 v1 ?_
      cases hp1 : xP (xAll P pic (k + 1))
      rotate_left
      · have e : nI (spv (xAll P pic (k + 1))) = 1 := by unfold spv; rw [hp1]; rfl
        rw [e]
        exact q_ifne rfl rfl (fun h => absurd h (by decide)) (fun _ => stop (Or.inl hp1))
      have e : nI (spv (xAll P pic (k + 1))) = 0 := by unfold spv; rw [hp1]; rfl
      rw [e]
      refine q_ifne rfl rfl (fun _ => ?_) (fun h => absurd rfl h)
      refine q_iload_n rfl rfl rfl ?_
      rcases huo with rfl | rfl
      · exact q_ifeq rfl rfl (fun _ => on hp1) (fun h => absurd rfl h)
      refine q_ifeq rfl rfl (fun h => absurd h (by decide)) (fun _ => ?_)
      refine q_aload_n rfl rfl rfl ?_
      refine q_getf rfl rfl (by omega) u0 v2 ?_
      rcases hR1.2.1 with ⟨h3, -⟩ | ⟨h3, -⟩
      · rw [h3]
        exact q_ifeq rfl rfl (fun h => absurd h (by decide)) (fun _ => stop (Or.inr ⟨rfl, h3⟩))
      · rw [h3]
        exact q_ifeq rfl rfl (fun _ => on hp1) (fun h => absurd rfl h)
  refine q_aload_n rfl rfl rfl ?_
  refine q_cV rfl rfl (Or.inl rfl) rfl rfl rfl rfl (by omega) k0 trivial rfl rfl rfl rfl rfl (o_clear hn hO0 hN hT) ?_
  rintro r T n9 ⟨rfl, rfl, eT, tb', hz, hOT⟩
  show PQ (j_SL L) (j_SV xs) j_EX mm_X7_explore 4 [.ref oc, .ref m, .int uo, pm_un] [] T n 0 0 _
  have hjT := JPc_fr hd1 hj eT
  have hJT := JMc_fr hd2 hJ eT
  have kMT := (eT m hd2).trans kM
  refine q_aload_n rfl rfl rfl ?_
  refine q_aload_n rfl rfl rfl ?_
  refine q_cV rfl rfl (Or.inl rfl) rfl rfl rfl rfl hm kMT trivial rfl rfl rfl rfl rfl (m_first hW hc hm hjT hJT hp5) ?_
  rintro r _ _ ⟨rfl, rfl, t, rfl, ht⟩
  show PQ (j_SL L) (j_SV xs) j_EX mm_X7_explore 9 [.ref oc, .ref m, .int uo, pm_un] [.long t, .ref oc] T n 0 0 _
  have hOT' := hOT
  obtain ⟨os1, u0, -⟩ := hOT'
  refine q_iconst rfl rfl ?_
  refine q_iconst rfl rfl ?_
  refine q_cV rfl rfl (Or.inl rfl) rfl rfl rfl rfl (by omega) u0 trivial rfl rfl rfl rfl rfl (o_num (t := t) (v1 := -1) (v2 := -1) hn hOT (by omega) (ht_0 hz)) ?_
  rintro r T1 n9 ⟨rfl, eT1, hr⟩
  rcases hr with ⟨j, hj, -⟩ | ⟨-, ⟨h2000, -⟩ | ⟨-, rfl, tb2, ce2, hT2, hO2⟩⟩
  · omega
  · omega
  show PQ (j_SL L) (j_SV xs) j_EX mm_X7_explore 14 [.ref oc, .ref m, .int uo, pm_un] [.int (nI 0)] T1 n 0 0 _
  refine q_pop rfl rfl ?_
  refine q_iconst rfl rfl ?_
  refine q_ist3n rfl rfl rfl rfl ?_
  have hX0 : OX oc (xAll P pic 0) (3 * 0) 0 0 so T1 := ⟨_, _, _, _, tb2, ce2, hO2, hT2, fun j hj => (by
    have hj' : j < 1 := hj
    have e : j = 0 := by omega
    rw [e, vpL_at]
    exact is_nrm ht), fun j hj => (by
    have hj' : j < 1 := hj
    have e : j = 0 := by omega
    rw [e]
    exact ⟨u32_at, u32_at⟩), fun _ q hq => absurd hq (by omega)⟩
  have hz0 : ∀ q : Fin 64, e_bt 0 q.val = false := by decide +kernel
  refine loop 2000 0 rfl T1 0 0 so (frO_tr eT eT1) hX0 (Nat.zero_le _) ⟨fun j hj => absurd hj (by omega), Or.inr ⟨rfl, fun ⟨j, h, _⟩ => absurd h (by omega)⟩, fun q hq => ⟨fun h => ?_, fun ⟨j, h, _⟩ => absurd h (by omega)⟩⟩ rfl
  rw [hz0 ⟨q, hq⟩] at h
  cases h
end EY
